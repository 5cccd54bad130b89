section
theorem go_one {u C : Nat} (hC : C ≤ 8) (ihu : ∀ u', u = u' + 1 → ∀ (h : pm_H) (nd m : Nat) (g : Nat → Nat) (L : List Nat), GS h C m g L → C ≤ u' + pcn m C → (nd = 0 ∨ nd ∈ L) → nd ≤ 8 → Sp (u' + 2) 256 h [.ref 77, .int (nJ nd)] (GQ h C m g)) (h : pm_H) (node m : Nat) (g : Nat → Nat) (L : List Nat) (G : GS h C m g L) (hu : C ≤ u + pcn m C) (hnode : node = 0 ∨ node ∈ L) (hn8 : node ≤ 8) : Sp (u + 2) 256 h [.ref 77, .int (nJ node)] (GQ h C m g) := by
  have hCe := G.2.1
  refine Sp_of aiX9_goesOn rfl rfl rfl ?_
  refine E_al rfl (show pm_get (lv_args 0 [.ref 77, .int (nJ node)]) 0 = _ from rfl) ?_
  refine E_call rfl (sp_cars G.1) (chk77 G.1 rfl rfl (by show 0 ≤ 8; decide)) (fun h1 r1 => ?_)
  rintro ⟨e1, f1, c1⟩
  rw [e1, f1]
  show Ends _ _ (4, (lv_args 0 [.ref 77, .int (nJ node)]), [.int (nJ (gn h 84 3))], h, 0, 0) _
  refine E_ci 1 rfl ci1 ?_
  refine E_bin rfl (pI_of _) ?_
  refine E_is rfl (fun lv2 L2_2 kp2 => ?_)
  have L2_0 := kp2 0 _ (nbz rfl) rfl (show pm_get (lv_args 0 [.ref 77, .int (nJ node)]) 0 = _ from rfl)
  have L2_1 := kp2 1 _ (nbz rfl) rfl (show pm_get (lv_args 0 [.ref 77, .int (nJ node)]) 1 = _ from rfl)
  exact go_loop hC hn8 ihu (gn h 84 3) lv2 (by omega) G hnode (fun _ _ a => a) (fr_rf _ _) hu (fun c hc _ => by rw [if_neg (by omega)]; omega) L2_0 L2_1 L2_2
theorem sp_goesOn {C : Nat} (hC : C ≤ 8) : ∀ (u : Nat) (h : pm_H) (node m : Nat) (g : Nat → Nat) (L : List Nat), GS h C m g L → C ≤ u + pcn m C → (node = 0 ∨ node ∈ L) → node ≤ 8 → Sp (u + 2) 256 h [.ref 77, .int (nJ node)] (GQ h C m g)
  | 0 => go_one hC (fun u' hu' => by omega)
  | u + 1 => go_one hC (fun u' hu' => by
      have : u' = u := by omega
      subst this
      exact sp_goesOn hC u')
theorem hg_gn (h : pm_H) : hg h = gn h 92 := by
  funext q
  unfold hg gn gi
  split <;> rename_i e
  · rw [e]
  · split
    · rename_i x e2; exact absurd e2 (e x)
    · rfl
theorem GS_dep {h : pm_H} {C m : Nat} {g : Nat → Nat} {L : List Nat} (G : GS h C m g L) (hC : C ≤ 8) (hf : ∀ c, c < C → isB m c = true) : ∀ v, 1 ≤ v → v ≤ C → dep (hg h) 8 v := by
  intro v h1 h2
  rw [hg_gn]
  have hp := pcn_le m C
  refine dep_le (TL_dep G.2.2.2.2.2.1.1 v ((G.2.2.2.2.2.2.1 v).mpr ⟨v - 1, by omega, by omega, hf _ (by omega)⟩)) (by rw [G.2.2.2.2.2.1.2]; omega)
/-- lawful: all come -/
theorem GQ_all {h0 h1 h' : pm_H} {C : Nat} {r : Option Value} (hL : LWf h0) (hC : gn h0 84 3 = C) (hQ : GQ h1 C 0 (fun c => gn h0 89 c - 1) h' r) (hC8 : C ≤ 8) : ∀ v, 1 ≤ v → v ≤ C → dep (hg h') 8 v := by
  obtain ⟨-, -, m, g, L, G, -, hg⟩ := hQ
  refine GS_dep G hC8 (pcn_full ?_)
  by_cases hlt : pcn m C < C
  · exfalso
    have hP : gn h0 84 0 = C := by rw [← hL.1]; exact hC
    have h1 := hL.2 (pcn m C + 1) (by omega) (by omega)
    rw [hP] at h1
    have h2 : cw (gn h0 89) (pcn m C + 1) C ≤ pcn m C := cw_pcn (fun c hc hle => by
      cases hz : isB m c with
      | true => rfl
      | false =>
        have this : g c + 1 + pcn m C = gn h0 89 c - 1 + pcn 0 C := hg c hc hz
        rw [pcn_zero] at this
        omega)
    omega
  · omega
theorem se_loop {h0 : pm_H} {d : Nat} (hh0 : HH h0) (hL : LWf h0) (j : Nat) : ∀ {h : pm_H} {c : Nat} (lv : List (Nat × Value)), c + j = gn h0 84 3 → HH h → fr_g GM h0 h → (∀ c', c' < c → gi h 97 c' = pI (gn h0 89 c')) → pm_get lv 0 = some (.ref 77) → pm_get lv 1 = some (.int (nJ c)) → Ends (pm_at tX9_searches) (pm_Rt pm_P (d + 10)) (2, lv, [], h, 0, 0) (fun h' r => r = none ∧ HH h' ∧ fr_g GM h0 h' ∧ ∀ v, 1 ≤ v → v ≤ gn h0 84 3 → dep (hg h') 8 v) := by
  have hC : gn h0 84 3 ≤ 8 := gn_hi hh0 rfl (by decide)
  induction j with
  | zero =>
    intro h c lv hj hh hfr hg L0 L1
    have hce : gn h 84 3 = gn h0 84 3 := fr_gn hfr (rg_no rfl _)
    refine E_il rfl L1 ?_
    refine E_al rfl L0 ?_
    refine E_call rfl (sp_cars hh) (chk77 hh rfl rfl (by show 1 ≤ 8; decide)) (fun h1 r1 => ?_)
    rintro ⟨e1, f1, c1⟩
    rw [e1, f1]
    show Ends _ _ (7, lv, [.int (nJ (gn h 84 3)), .int (nJ c)], h, 0, 0) _
    refine E_icT rfl (decide_eq_true ((nJ_le (by omega) (by omega)).mpr (by omega))) ?_
    refine E_al rfl L0 ?_
    refine E_ci 0 rfl ci0 ?_
    refine E_pf rfl hh rfl ?_
    have hh2 : HH (pt h 77 35 (nJ 0)) := HH_ptn hh rfl (by omega) (by omega) (by omega)
    refine E_al rfl L0 ?_
    refine E_ci 1 rfl ci1 ?_
    refine E_pf rfl hh2 rfl ?_
    have hh3 : HH (pt (pt h 77 35 (nJ 0)) 77 36 (nJ 1)) := HH_ptn hh2 rfl (by omega) (by omega) (by omega)
    refine E_al rfl L0 ?_
    refine E_gr rfl hh3 (q := 98) rfl ?_
    refine E_ci 0 rfl ci0 ?_
    refine E_ci 0 rfl ci0 ?_
    refine E_ias rfl hh3 rfl (by omega) (by decide) ?_
    have hh4 : HH (pt (pt (pt h 77 35 (nJ 0)) 77 36 (nJ 1)) 98 0 (nJ 0)) := HH_ptn hh3 (bd_u rfl (by omega)) (by omega) (by omega) (by omega)
    refine E_al rfl L0 ?_
    refine E_ci 0 rfl ci0 ?_
    have G : GS (pt (pt (pt h 77 35 (nJ 0)) 77 36 (nJ 1)) 98 0 (nJ 0)) (gn h0 84 3) 0 (fun c => gn h0 89 c - 1) [] := by
      refine ⟨hh4, ?_, ?_, by omega, ?_, ⟨trivial, by rw [pcn_zero]; rfl⟩, fun v => ⟨fun hv => absurd hv List.not_mem_nil, fun ⟨c, _, _, c3⟩ => ?_⟩, fun c hc => ?_⟩
      · rw [gn_ne (by first | exact gxx rfl | omega), gn_ne (by first | exact gxx rfl | omega), gn_ne (by first | exact gxx rfl | omega)]; exact hce
      · rw [gi_ne (by first | exact gxx rfl | omega), gi_ne (by first | exact gxx rfl | omega)]; exact gi_pt hh rfl (ai_lo _) (ai_hi _)
      · rw [gn_ne (by first | exact gxx rfl | omega), gn_ptn hh2 rfl (by omega) (by omega) (by omega), pcn_zero]
      · rw [isB_zero] at c3; cases c3
      · rw [gi_ne (by first | exact gxx rfl | omega), gi_ne (by first | exact gxx rfl | omega), gi_ne (by first | exact gxx rfl | omega), hg c (by omega)]
        have hb8 : gn h0 89 c ≤ 8 := gn_hi hh0 (bd_u rfl (by omega)) (by decide)
        show (pI (gn h0 89 c) = nJ (gn h0 89 c - 1) ∨ pI (gn h0 89 c) = -1 ∧ gn h0 89 c - 1 = 0) ∧ gn h0 89 c - 1 ≤ 8
        generalize gn h0 89 c = x at hb8 ⊢
        cases x with
        | zero => exact ⟨.inr ⟨rfl, rfl⟩, by omega⟩
        | succ k => exact ⟨.inl rfl, by omega⟩
    refine E_call rfl (Sp_le (by first | exact Nat.add_le_add_left (Nat.le_of_ble_eq_true rfl) _ | exact Nat.le_of_ble_eq_true rfl | omega) (sp_goesOn (by omega) 8 _ 0 0 _ [] G (by omega) (.inl rfl) (by omega))) (chk77 hh4 rfl rfl (by show 0 ≤ 8; decide)) (fun h9 r9 => ?_)
    intro hQ
    obtain ⟨m9, g9, L9, G9, -, -⟩ := hQ.2.2
    rw [hQ.1]
    show Ends _ _ (52, lv, [], h9, 0, 0) _
    exact E_ret rfl ⟨rfl, G9.1, fr_trans (fr_ptr (l := 0) (u := 8) rfl (by omega) (by omega) (fr_ptr (l := 35) (u := 36) rfl (by omega) (by omega) (fr_ptr (l := 35) (u := 36) rfl (by omega) (by omega) hfr))) hQ.2.1, GQ_all hL rfl hQ hC⟩
  | succ j ih =>
    intro h c lv hj hh hfr hg L0 L1
    have hce : gn h 84 3 = gn h0 84 3 := fr_gn hfr (rg_no rfl _)
    refine E_il rfl L1 ?_
    refine E_al rfl L0 ?_
    refine E_call rfl (sp_cars hh) (chk77 hh rfl rfl (by show 1 ≤ 8; decide)) (fun h1 r1 => ?_)
    rintro ⟨e1, f1, c1⟩
    rw [e1, f1]
    show Ends _ _ (7, lv, [.int (nJ (gn h 84 3)), .int (nJ c)], h, 0, 0) _
    refine E_icF rfl (decide_eq_false (fun q => absurd ((nJ_le (by omega) (by omega)).mp q) (by omega))) ?_
    refine E_al rfl L0 ?_
    refine E_gr rfl hh (q := 97) rfl ?_
    refine E_il rfl L1 ?_
    refine E_al rfl L0 ?_
    refine E_gr rfl hh (q := 89) rfl ?_
    refine E_il rfl L1 ?_
    refine E_ial rfl hh rfl (by omega) (by decide) (show gi h 89 c = nJ ((gn h0 89 c)) from (by rw [fr_gi hfr (rg_no rfl _)]; exact gi_gn hh0 (bd_u rfl (by omega)) (by decide))) ?_
    refine E_ci 1 rfl ci1 ?_
    refine E_bin rfl (pI_of _) ?_
    refine E_ias rfl hh rfl (by omega) (by decide) ?_
    have hh2 : HH (pt h 97 c (pI (gn h0 89 c))) := HH_pt hh (bd_u rfl (by omega)) (ai_lo _) (ai_hi _)
    refine E_inc rfl L1 (nJ_inc _) (fun lv3 L3_1 kp3 => ?_)
    have L3_0 := kp3 0 _ (nbz rfl) rfl L0
    refine E_goto rfl ?_
    refine ih (c := c + 1) lv3 (by omega) hh2 (fr_ptr (l := 0) (u := 7) rfl (by omega) (by omega) hfr) (fun c' hc' => ?_) L3_0 L3_1
    by_cases hcc : c' = c
    · subst hcc
      rw [gi_pt hh (bd_u rfl (by omega)) (ai_lo _) (ai_hi _)]
    · rw [gi_ne (fun _ => hcc)]; exact hg c' (by omega)
theorem sp_searches {h0 : pm_H} {d : Nat} (hh : HH h0) (hL : LWf h0) : Sp (d + 11) 342 h0 [.ref 77] (fun h' r => r = none ∧ HH h' ∧ fr_g GM h0 h' ∧ ∀ v, 1 ≤ v → v ≤ gn h0 84 3 → dep (hg h') 8 v) := by
  refine Sp_of aiX9_searches rfl rfl rfl ?_
  refine E_ci 0 rfl ci0 ?_
  refine E_is rfl (fun lv1 L1_1 kp1 => ?_)
  have L1_0 := kp1 0 _ (nbz rfl) rfl (show pm_get (lv_args 0 [.ref 77]) 0 = _ from rfl)
  exact se_loop hh hL (gn h0 84 3) (c := 0) lv1 (by omega) hh (fr_rf _ _) (fun c' hc' => absurd hc' (Nat.not_lt_zero _)) L1_0 L1_1
noncomputable def CM : List Rng := [(77, 35, 35), (97, 0, 7)]
noncomputable def CQ (h0 : pm_H) (P m0 : Nat) (h' : pm_H) (r : Option Value) : Prop := r = none ∧ HH h' ∧ fr_g CM h0 h' ∧ ∃ m, gi h' 77 35 = nJ m ∧ m < 512 ∧ ∀ c, c < P → isB m0 c = true → isB m c = true
theorem ct_loop {u P node m0 : Nat} {h0 : pm_H} (hP : P ≤ 8) (hn8 : node ≤ 8) (ihu : ∀ u', u = u' + 1 → ∀ (h : pm_H) (nd m : Nat), HH h → gn h 84 0 = P → gi h 77 35 = nJ m → m < 512 → P ≤ u' + pcn m P → nd ≤ 8 → Sp (u' + 2) 234 h [.ref 77, .int (nJ nd)] (CQ h P m)) (k : Nat) : ∀ {h : pm_H} {m : Nat} (lv : List (Nat × Value)), k ≤ P → HH h → gn h 84 0 = P → gi h 77 35 = nJ m → m < 512 → (∀ c, c < P → isB m0 c = true → isB m c = true) → fr_g CM h0 h → P ≤ u + pcn m P → pm_get lv 0 = some (.ref 77) → pm_get lv 1 = some (.int (nJ node)) → pm_get lv 2 = some (.int (pI k)) → Ends (pm_at tX9_counts0) (pm_Rt pm_P (u + 1)) (7, lv, [], h, 0, 0) (CQ h0 P m0) := by
  induction k with
  | zero =>
    intro h m lv hkC hh hP0 hm0 hm hsub hfr hu L0 L1 L2
    refine E_il rfl L2 ?_
    refine E_ifT rfl (by decide) ?_
    exact E_ret rfl ⟨rfl, hh, hfr, m, hm0, hm, hsub⟩
  | succ k ih =>
    intro h m lv hkC hh hP0 hm0 hm hsub hfr hu L0 L1 L2
    have L2 : pm_get lv 2 = some (.int (nJ k)) := L2
    refine E_il rfl L2 ?_
    refine E_ifF rfl (decide_eq_false (nJ_lt0 (by omega))) ?_
    refine E_al rfl L0 ?_
    refine E_gf rfl hh rfl (show gi h 77 35 = nJ m from hm0) ?_
    refine E_il rfl L2 ?_
    refine E_call rfl (sp_isBit (by omega) (by omega)) (chkS rfl (by show 0 ≤ 8; decide)) (fun h1 r1 => ?_)
    rintro ⟨e1, f1⟩
    rw [e1, f1]
    show Ends _ _ (19, lv, [.int (nJ (bif isB m k then 1 else 0))], h, 0, 0) _
    by_cases hb2 : isB m k = false
    · refine E_ifT rfl (by rw [hb2]; rfl) ?_
      refine E_al rfl L0 ?_
      refine E_gr rfl hh (q := 92) rfl ?_
      refine E_il rfl L2 ?_
      refine E_ci 1 rfl ci1 ?_
      refine E_bin rfl (nJ_add _ _) ?_
      have b3 : gn h 92 ((k + 1)) ≤ 8 := gn_hi hh (bd_u rfl (by omega)) (by decide)
      refine E_ial rfl hh rfl (by omega) (by decide) (gi_gn hh (bd_u rfl (by omega)) (by decide)) ?_
      refine E_il rfl L1 ?_
      by_cases hb4 : (gn h 92 ((k + 1))) = node
      · refine E_icT rfl (decide_eq_true ((nJ_eq (by omega) (by omega)).mpr hb4)) ?_
        obtain ⟨m2, hm2⟩ : ∃ m2, m2 = m + 2 ^ k := ⟨_, rfl⟩
        have hm2l : m2 < 512 := by rw [hm2]; exact isB_add_lt hm (by omega) hb2
        have hpl := pcn_lt hb2 (n := P) (by omega)
        have hpa : pcn m2 P = pcn m P + 1 := by rw [hm2, pcn_add hm (by omega) hb2 (by omega), if_pos (by omega)]
        have hup : ∀ c, c < P → isB m c = true → isB m2 c = true := fun c hc h4 => by rw [hm2, isB_add hm (by omega) (by omega) hb2, h4, Bool.or_true]
        refine E_al rfl L0 ?_
        refine E_dup rfl rfl ?_
        refine E_gf rfl hh rfl (show gi h 77 35 = nJ m from hm0) ?_
        refine E_ci 1 rfl ci1 ?_
        refine E_il rfl L2 ?_
        refine E_bin rfl rfl ?_
        refine E_bin rfl (show nJ m ||| nJ 1 <<< (nJ k &&& 31) = nJ m2 from (by rw [hm2]; exact or_new hm (by omega) hb2)) ?_
        refine E_pf rfl hh rfl ?_
        have hh5 : HH (pt h 77 35 (nJ m2)) := HH_ptn hh rfl (by omega) (by omega) (by omega)
        refine E_al rfl L0 ?_
        refine E_il rfl L2 ?_
        refine E_ci 1 rfl ci1 ?_
        refine E_bin rfl (nJ_add _ _) ?_
        obtain ⟨u', hu'⟩ : ∃ u', u = u' + 1 := ⟨u - 1, by omega⟩
        refine E_call rfl (Sp_le (by first | exact Nat.add_le_add_left (Nat.le_of_ble_eq_true rfl) _ | exact Nat.le_of_ble_eq_true rfl | omega) (ihu u' hu' _ _ m2 hh5 (by rw [gn_ne (by first | exact gxx rfl | omega)]; exact hP0) (gi_pt hh rfl (ai_lo _) (ai_hi _)) hm2l (by omega) (by omega))) (chk77 hh5 rfl rfl (by show 0 ≤ 8; decide)) (fun h9 r9 => ?_)
        rintro ⟨e9, hh9, fr9, m9, hm9, hl9, sub9⟩
        rw [e9]
        show Ends _ _ (69, lv, [], h9, 0, 0) _
        refine E_inc rfl L2 (pI_dec _) (fun lv6 L6_2 kp6 => ?_)
        have L6_0 := kp6 0 _ (nbz rfl) rfl L0
        have L6_1 := kp6 1 _ (nbz rfl) rfl L1
        refine E_goto rfl ?_
        refine ih lv6 (by omega) hh9 (by rw [fr_gn fr9 (rg_no rfl _), gn_ne (by first | exact gxx rfl | omega)]; exact hP0) hm9 hl9 (fun c hc a => sub9 c hc (hup c hc (hsub c hc a))) (fr_trans (fr_ptr (l := 35) (u := 35) rfl (by omega) (by omega) hfr) fr9) ?_ L6_0 L6_1 L6_2
        have := pcn_mono (n := P) sub9
        omega
      · refine E_icF rfl (decide_eq_false (fun q => hb4 ((nJ_eq (by omega) (by omega)).mp q))) ?_
        refine E_al rfl L0 ?_
        refine E_gr rfl hh (q := 97) rfl ?_
        refine E_il rfl L2 ?_
        refine E_dup2 rfl rfl rfl ?_
        refine E_ial rfl hh rfl (by omega) (by decide) (show gi h 97 k = (gi h 97 k) from rfl) ?_
        refine E_ci 1 rfl ci1 ?_
        refine E_bin rfl rfl ?_
        refine E_ias rfl hh rfl (by omega) (by decide) ?_
        have hh7 : HH (pt h 97 k (gi h 97 k + nJ 1)) := HH_pt hh (bd_u rfl (by omega)) (ai_lo _) (ai_hi _)
        refine E_goto rfl ?_
        refine E_inc rfl L2 (pI_dec _) (fun lv8 L8_2 kp8 => ?_)
        have L8_0 := kp8 0 _ (nbz rfl) rfl L0
        have L8_1 := kp8 1 _ (nbz rfl) rfl L1
        refine E_goto rfl ?_
        exact ih lv8 (by omega) hh7 (by rw [gn_ne (by first | exact gxx rfl | omega)]; exact hP0) (by rw [gi_ne (by first | exact gxx rfl | omega)]; exact hm0) hm hsub (fr_ptr (l := 0) (u := 7) rfl (by omega) (by omega) hfr) hu L8_0 L8_1 L8_2
    · refine E_ifF rfl (by rw [Bool.not_eq_false] at hb2; rw [hb2]; rfl) ?_
      refine E_goto rfl ?_
      refine E_inc rfl L2 (pI_dec _) (fun lv9 L9_2 kp9 => ?_)
      have L9_0 := kp9 0 _ (nbz rfl) rfl L0
      have L9_1 := kp9 1 _ (nbz rfl) rfl L1
      refine E_goto rfl ?_
      exact ih lv9 (by omega) hh hP0 hm0 hm hsub hfr hu L9_0 L9_1 L9_2
theorem ct_one {u P : Nat} (hP : P ≤ 8) (ihu : ∀ u', u = u' + 1 → ∀ (h : pm_H) (nd m : Nat), HH h → gn h 84 0 = P → gi h 77 35 = nJ m → m < 512 → P ≤ u' + pcn m P → nd ≤ 8 → Sp (u' + 2) 234 h [.ref 77, .int (nJ nd)] (CQ h P m)) (h : pm_H) (node m : Nat) (hh : HH h) (hP0 : gn h 84 0 = P) (hm0 : gi h 77 35 = nJ m) (hm : m < 512) (hu : P ≤ u + pcn m P) (hn8 : node ≤ 8) : Sp (u + 2) 234 h [.ref 77, .int (nJ node)] (CQ h P m) := by
  refine Sp_of aiX9_counts0 rfl rfl rfl ?_
  refine E_al rfl (show pm_get (lv_args 0 [.ref 77, .int (nJ node)]) 0 = _ from rfl) ?_
  refine E_call rfl (sp_places hh) (chk77 hh rfl rfl (by show 0 ≤ 8; decide)) (fun h1 r1 => ?_)
  rintro ⟨e1, f1, c1⟩
  rw [e1, f1]
  show Ends _ _ (4, (lv_args 0 [.ref 77, .int (nJ node)]), [.int (nJ (gn h 84 0))], h, 0, 0) _
  refine E_ci 1 rfl ci1 ?_
  refine E_bin rfl (pI_of _) ?_
  refine E_is rfl (fun lv2 L2_2 kp2 => ?_)
  have L2_0 := kp2 0 _ (nbz rfl) rfl (show pm_get (lv_args 0 [.ref 77, .int (nJ node)]) 0 = _ from rfl)
  have L2_1 := kp2 1 _ (nbz rfl) rfl (show pm_get (lv_args 0 [.ref 77, .int (nJ node)]) 1 = _ from rfl)
  exact ct_loop hP hn8 ihu (gn h 84 0) lv2 (by omega) hh hP0 hm0 hm (fun _ _ a => a) (fr_rf _ _) hu L2_0 L2_1 L2_2
theorem sp_counts0 {P : Nat} (hP : P ≤ 8) : ∀ (u : Nat) (h : pm_H) (node m : Nat), HH h → gn h 84 0 = P → gi h 77 35 = nJ m → m < 512 → P ≤ u + pcn m P → node ≤ 8 → Sp (u + 2) 234 h [.ref 77, .int (nJ node)] (CQ h P m)
  | 0 => ct_one hP (fun u' hu' => by omega)
  | u + 1 => ct_one hP (fun u' hu' => by
      have : u' = u := by omega
      subst this
      exact sp_counts0 hP u')
end
section
/-! by hand: the tree by wishes (written by gen_t4.py) -/
/-- a row's elements from the k-th down to the first -/
noncomputable def rl (g : Nat → Nat) : Nat → List Nat
  | 0 => []
  | k + 1 => g (k + 1) :: rl g k
theorem rl_eq {g g' : Nat → Nat} : ∀ {k : Nat}, (∀ i, 1 ≤ i → i ≤ k → g' i = g i) → rl g' k = rl g k
  | 0, _ => rfl
  | k + 1, h => by
    unfold rl
    rw [h (k + 1) (by omega) (by omega), rl_eq (k := k) (fun i h1 h2 => h i h1 (by omega))]
theorem rl_mem {g : Nat → Nat} {i : Nat} : ∀ {k : Nat}, 1 ≤ i → i ≤ k → g i ∈ rl g k
  | 0, h1, h2 => by omega
  | k + 1, h1, h2 => by
    unfold rl
    by_cases h : i = k + 1
    · subst h; exact List.mem_cons_self
    · exact List.mem_cons_of_mem _ (rl_mem (k := k) h1 (by omega))
theorem TL_par {f : Nat → Nat} : ∀ {L : List Nat}, TL f L → ∀ v, v ∈ L → f v = 0 ∨ f v ∈ L
  | [], _, v, hv => absurd hv List.not_mem_nil
  | u :: L, h, v, hv => by
    cases List.mem_cons.mp hv with
    | inl e =>
      subst e
      cases h.2.2.1 with
      | inl q => exact .inl q
      | inr q => exact .inr (List.mem_cons_of_mem _ q)
    | inr hv =>
      cases TL_par h.2.2.2 v hv with
      | inl q => exact .inl q
      | inr q => exact .inr (List.mem_cons_of_mem _ q)
theorem rl_len {g : Nat → Nat} : ∀ k, (rl g k).length = k
  | 0 => rfl
  | k + 1 => congrArg (· + 1) (rl_len k)
noncomputable def LM : List Rng := [(92, 0, 8), (93, 0, 8)]
/-- the row of places q + 1, cars below c are hung -/
noncomputable def LT (h0 h : pm_H) (q c n : Nat) : Prop := HH h ∧ fr_g LM h0 h ∧ gn h 93 0 = 0 ∧ n = 1 + cw (gn h0 89) q (gn h0 84 3) + ce (gn h0 89) (q + 1) c ∧ TL (gn h 92) (rl (gn h 93) (n - 1)) ∧ ∀ v, v ∈ rl (gn h 93) (n - 1) ↔ ∃ c', c' < gn h0 84 3 ∧ v = c' + 1 ∧ (gn h0 89 c' < q + 1 ∨ gn h0 89 c' = q + 1 ∧ c' < c)
theorem LT_n {h0 h : pm_H} {q c n : Nat} (T : LT h0 h q c n) (hc : c < gn h0 84 3) (he : gn h0 89 c = q + 1) : n ≤ gn h0 84 3 := by
  have h1 := cw_le (gn h0 89) (q + 1) (gn h0 84 3)
  have h2 := cw_succ (gn h0 89) q (gn h0 84 3)
  have h3 := ce_lt (gn h0 89) (q + 1) hc he
  have h4 := T.2.2.2.1
  omega
theorem LT_next {h0 h : pm_H} {q n : Nat} (T : LT h0 h q (gn h0 84 3) n) : LT h0 h (q + 1) 0 n := by
  obtain ⟨t1, t2, t3, t4, t5, t6⟩ := T
  refine ⟨t1, t2, t3, ?_, t5, fun v => ?_⟩
  · have h2 := cw_succ (gn h0 89) q (gn h0 84 3)
    have h3 : ce (gn h0 89) (q + 1 + 1) 0 = 0 := rfl
    omega
  · rw [t6]
    constructor
    · rintro ⟨c, a, b, e⟩; exact ⟨c, a, b, by omega⟩
    · rintro ⟨c, a, b, e⟩; exact ⟨c, a, b, by omega⟩
theorem LT_skip {h0 h : pm_H} {q c n : Nat} (T : LT h0 h q c n) (he : ¬ gn h0 89 c = q + 1) : LT h0 h q (c + 1) n := by
  obtain ⟨t1, t2, t3, t4, t5, t6⟩ := T
  refine ⟨t1, t2, t3, ?_, t5, fun v => ?_⟩
  · rw [ce_F he]; exact t4
  · rw [t6]
    constructor
    · rintro ⟨c', a, b, e⟩; exact ⟨c', a, b, by omega⟩
    · rintro ⟨c', a, b, e⟩
      refine ⟨c', a, b, ?_⟩
      by_cases hcc : c' = c
      · subst hcc; omega
      · omega
theorem LT_add {h0 h : pm_H} {q c n : Nat} (hh0 : HH h0) (hL : LWf h0) (hq : q < gn h0 84 0) (T : LT h0 h q c n) (hc : c < gn h0 84 3) (he : gn h0 89 c = q + 1) : LT h0 (pt (pt h 92 (c + 1) (nJ (gn h 93 q))) 93 n (nJ (c + 1))) q (c + 1) (n + 1) := by
  have hn := LT_n T hc he
  obtain ⟨t1, t2, t3, t4, t5, t6⟩ := T
  have hC8 : gn h0 84 3 ≤ 8 := gn_hi hh0 rfl (by decide)
  have hb : gn h 93 q ≤ 8 := gn_hi t1 (bd_u rfl (by have := hL.1; omega)) (by decide)
  have hh1 : HH (pt h 92 (c + 1) (nJ (gn h 93 q))) := HH_ptn t1 (bd_u rfl (by omega)) (by omega) (by omega) (by omega)
  have hh2 : HH (pt (pt h 92 (c + 1) (nJ (gn h 93 q))) 93 n (nJ (c + 1))) := HH_ptn hh1 (bd_u rfl (by omega)) (by omega) (by omega) (by omega)
  have e93 : gn (pt (pt h 92 (c + 1) (nJ (gn h 93 q))) 93 n (nJ (c + 1))) 93 n = c + 1 := gn_ptn hh1 (bd_u rfl (by omega)) (by omega) (by omega) (by omega)
  have e93' : ∀ i, i ≠ n → gn (pt (pt h 92 (c + 1) (nJ (gn h 93 q))) 93 n (nJ (c + 1))) 93 i = gn h 93 i := fun i hi => by rw [gn_ne (fun _ => hi), gn_ne (by first | exact gxx rfl | omega)]
  have e92 : gn (pt (pt h 92 (c + 1) (nJ (gn h 93 q))) 93 n (nJ (c + 1))) 92 (c + 1) = gn h 93 q := by rw [gn_ne (by first | exact gxx rfl | omega), gn_ptn t1 (bd_u rfl (by omega)) (by omega) (by omega) (by omega)]
  have erl : rl (gn (pt (pt h 92 (c + 1) (nJ (gn h 93 q))) 93 n (nJ (c + 1))) 93) (n + 1 - 1) = (c + 1) :: rl (gn h 93) (n - 1) := by
    rw [show n + 1 - 1 = (n - 1) + 1 by omega]
    unfold rl
    rw [show n - 1 + 1 = n by omega, e93, rl_eq (g := gn h 93) (fun i h1 h2 => e93' i (by omega))]
    cases n - 1 <;> rfl
  have hnL : c + 1 ∉ rl (gn h 93) (n - 1) := fun hm => by
    obtain ⟨c', a, b, e⟩ := (t6 _).mp hm
    have : c' = c := by omega
    subst this
    omega
  refine ⟨hh2, fr_ptr (l := 0) (u := 8) rfl (by omega) (by omega) (fr_ptr (l := 0) (u := 8) rfl (by omega) (by omega) t2), ?_, ?_, ?_, ?_⟩
  · rw [e93' 0 (by omega)]; exact t3
  · rw [ce_T he]; omega
  · rw [erl]
    refine ⟨by omega, hnL, ?_, TL_upd (fun v hv => ?_) t5⟩
    · rw [e92]
      by_cases h0 : q = 0
      · subst h0; exact .inl t3
      · right
        have := hL.2 q (by omega) (by omega)
        rw [← hL.1] at this
        exact rl_mem (by omega) (by omega)
    · have : v ≠ c + 1 := fun e => hnL (e ▸ hv)
      rw [gn_ne (by first | exact gxx rfl | omega), gn_ne (fun _ => this)]
  · intro v
    rw [erl, List.mem_cons, t6]
    constructor
    · rintro (rfl | ⟨c', a, b, e⟩)
      · exact ⟨c, hc, rfl, by omega⟩
      · exact ⟨c', a, b, by omega⟩
    · rintro ⟨c', a, b, e⟩
      by_cases hcc : c' = c
      · subst hcc; exact .inl b
      · exact .inr ⟨c', a, b, by omega⟩
end
