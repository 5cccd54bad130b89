section
/-! by hand: street (written by gen_t19.py) -/
theorem bd_84r : ∀ k : Fin 6, (match bd 84 (24 + k.val) with | some q => decide (q.1 ≤ 0) && decide (0 ≤ q.2) | none => false) = true := by decide +kernel
theorem bd_84e {k : Nat} (hk : k < 6) : ∃ q, bd 84 (24 + k) = some q ∧ q.1 ≤ 0 ∧ 0 ≤ q.2 := by
  have h := bd_84r ⟨k, hk⟩
  dsimp only at h
  cases hb : bd 84 (24 + k) with
  | none => rw [hb] at h; cases h
  | some q =>
    rw [hb] at h
    simp only [Bool.and_eq_true, decide_eq_true_eq] at h
    exact ⟨q, rfl, h.1, h.2⟩
noncomputable def ZM : List Rng := [(83, 4, 4), (84, 24, 29)]
theorem cl_loop {h0 : pm_H} {d : Nat} (j : Nat) : ∀ {h : pm_H} {k : Nat} (lv : List (Nat × Value)), k + j = 6 → HH h → fr_g ZM h0 h → gi h 83 4 = nJ 0 → (∀ i, i < k → gn h 84 (24 + i) = 0) → pm_get lv 0 = some (.ref 77) → pm_get lv 1 = some (.int (nJ k)) → Ends (pm_at tX9_clears) (pm_Rt pm_P (d + 1)) (9, lv, [], h, 0, 0) (fun h' r => r = none ∧ HH h' ∧ fr_g ZM h0 h' ∧ gi h' 83 4 = nJ 0 ∧ ∀ i, i < 6 → gn h' 84 (24 + i) = 0) := by
  induction j with
  | zero =>
    intro h k lv hj hh hfr h83 hz L0 L1
    refine E_il rfl L1 ?_
    refine E_ci 6 rfl ci6 ?_
    refine E_icT rfl (decide_eq_true ((nJ_le (by omega) (by omega)).mpr (by omega))) ?_
    exact E_ret rfl ⟨rfl, hh, hfr, h83, fun i hi => hz i (by omega)⟩
  | succ j ih =>
    intro h k lv hj hh hfr h83 hz L0 L1
    refine E_il rfl L1 ?_
    refine E_ci 6 rfl ci6 ?_
    refine E_icF rfl (decide_eq_false (fun q => absurd ((nJ_le (by omega) (by omega)).mp q) (by omega))) ?_
    refine E_al rfl L0 ?_
    refine E_il rfl L1 ?_
    refine E_ci 0 rfl ci0 ?_
    obtain ⟨q, hq, q1, q2⟩ := bd_84e (k := k) (by omega)
    refine E_call rfl (sp_tells hh (by omega)) (chk77 hh rfl rfl (by show 0 ≤ 8; decide)) (fun h1 r1 => ?_)
    rintro ⟨e1, f1⟩
    have hhq : HH (pt h 84 (24 + k) (nJ 0)) := HH_pt hh hq (by show q.1 ≤ 0; exact q1) (by show 0 ≤ q.2; exact q2)
    rw [e1, f1]
    show Ends _ _ (21, lv, [], (pt h 84 (24 + k) (nJ 0)), 0, 0) _
    refine E_inc rfl L1 (nJ_inc _) (fun lv2 L2_1 kp2 => ?_)
    have L2_0 := kp2 0 _ (nbz rfl) rfl L0
    refine E_goto rfl ?_
    refine ih lv2 (by omega) hhq (fr_ptr (l := 24) (u := 29) rfl (by omega) (by omega) hfr) (by rw [gi_ne (by first | exact gxx rfl | omega)]; exact h83) (fun i hi => ?_) L2_0 L2_1
    by_cases e : i = k
    · rw [e]; exact gn_of (gi_pt hh hq (by show q.1 ≤ 0; exact q1) (by show 0 ≤ q.2; exact q2)) (by omega)
    · rw [gn_ne (fun _ => by omega)]; exact hz i (by omega)
theorem sp_clears {h0 : pm_H} {d : Nat} (hh0 : HH h0) : Sp (d + 2) 227 h0 [.ref 77] (fun h' r => r = none ∧ HH h' ∧ fr_g ZM h0 h' ∧ gi h' 83 4 = nJ 0 ∧ ∀ i, i < 6 → gn h' 84 (24 + i) = 0) := by
  refine Sp_of aiX9_clears rfl rfl rfl ?_
  refine E_al rfl (show pm_get (lv_args 0 [.ref 77]) 0 = _ from rfl) ?_
  refine E_gr rfl hh0 (q := 83) rfl ?_
  refine E_ci 4 rfl ci4 ?_
  refine E_ci 0 rfl ci0 ?_
  refine E_ias rfl hh0 rfl (by omega) (by decide) ?_
  have hh1 : HH (pt h0 83 4 (nJ 0)) := HH_ptn hh0 (bd_u rfl (by omega)) (by omega) (by omega) (by omega)
  have fr1 : fr_g ZM h0 (pt h0 83 4 (nJ 0)) := fr_ptr (l := 4) (u := 4) rfl (by omega) (by omega) (fr_rf ZM h0)
  refine E_ci 0 rfl ci0 ?_
  refine E_is rfl (fun lv2 L2_1 kp2 => ?_)
  have L2_0 := kp2 0 _ (nbz rfl) rfl (show pm_get (lv_args 0 [.ref 77]) 0 = _ from rfl)
  exact cl_loop 6 (k := 0) lv2 (by omega) hh1 fr1 (gi_pt hh0 (bd_u rfl (by omega)) (ai_lo _) (ai_hi _)) (fun i hi => absurd hi (Nat.not_lt_zero _)) L2_0 L2_1
theorem sp_isGood {h : pm_H} {d : Nat} (hh : HH h) : Sp (d + 1) 269 h [.ref 77] (fun h' r => h' = h ∧ (¬ gn h 77 12 = 0 ∧ r = some (.int (nJ 0)) ∨ gn h 77 12 = 0 ∧ r = some (.int (nJ 1)))) := by
  refine Sp_of aiX9_isGood rfl rfl rfl ?_
  refine E_al rfl (show pm_get (lv_args 0 [.ref 77]) 0 = _ from rfl) ?_
  have b1 : gn h 77 12 ≤ 3 := gn_hi hh rfl (by decide)
  refine E_gf rfl hh rfl (gi_gn hh rfl (by decide)) ?_
  by_cases hb2 : ¬ (gn h 77 12) = 0
  · refine E_ifT rfl (decide_eq_true (fun q => hb2 ((nJ_eq0 (by omega)).mp q))) ?_
    refine E_ci 0 rfl ci0 ?_
    exact E_rtz rfl (.inl rfl) ⟨rfl, .inl ⟨hb2, rfl⟩⟩
  · refine E_ifF rfl (decide_eq_false (fun q => hb2 (fun z => q ((nJ_eq0 (by omega)).mpr z)))) ?_
    refine E_ci 1 rfl ci1 ?_
    refine E_goto rfl ?_
    exact E_rtz rfl (.inr rfl) ⟨rfl, .inr ⟨Classical.not_not.mp hb2, rfl⟩⟩
theorem sp_over6 {h0 : pm_H} {d : Nat} (hh0 : HH h0) : Sp (d + 1) 275 h0 [.ref 77] (fun h' r => gn h' 77 6 = 0) := by
  refine Sp_of aiX9_isOver rfl rfl rfl ?_
  refine E_al rfl (show pm_get (lv_args 0 [.ref 77]) 0 = _ from rfl) ?_
  refine E_ci 0 rfl ci0 ?_
  refine E_pf rfl hh0 rfl ?_
  have hh1 : HH (pt h0 77 6 (nJ 0)) := HH_ptn hh0 rfl (by omega) (by omega) (by omega)
  have t1_0 : gn (pt h0 77 6 (nJ 0)) 77 6 = 0 := gn_ptn hh0 rfl (by omega) (by omega) (by omega)
  generalize hz1 : (pt h0 77 6 (nJ 0)) = g1 at hh1 t1_0 ⊢
  refine E_al rfl (show pm_get (lv_args 0 [.ref 77]) 0 = _ from rfl) ?_
  refine E_al rfl (show pm_get (lv_args 0 [.ref 77]) 0 = _ from rfl) ?_
  have b2 : gn g1 77 12 ≤ 3 := gn_hi hh1 rfl (by decide)
  refine E_gf rfl hh1 rfl (gi_gn hh1 rfl (by decide)) ?_
  refine E_pf rfl hh1 rfl ?_
  have hh3 : HH (pt g1 77 14 (nJ ((gn g1 77 12)))) := HH_ptn hh1 rfl (by omega) (by omega) (by omega)
  have t3_0 : gn (pt g1 77 14 (nJ ((gn g1 77 12)))) 77 6 = gn g1 77 6 := gn_ne (by first | exact gxx rfl | omega)
  generalize hz3 : (pt g1 77 14 (nJ ((gn g1 77 12)))) = g3 at hh3 t3_0 ⊢
  refine E_al rfl (show pm_get (lv_args 0 [.ref 77]) 0 = _ from rfl) ?_
  refine E_al rfl (show pm_get (lv_args 0 [.ref 77]) 0 = _ from rfl) ?_
  have b4 : gn g3 77 12 ≤ 3 := gn_hi hh3 rfl (by decide)
  refine E_gf rfl hh3 rfl (gi_gn hh3 rfl (by decide)) ?_
  by_cases hb5 : ¬ (gn g3 77 12) = 0
  · refine E_ifT rfl (decide_eq_true (fun q => hb5 ((nJ_eq0 (by omega)).mp q))) ?_
    refine E_al rfl (show pm_get (lv_args 0 [.ref 77]) 0 = _ from rfl) ?_
    refine E_gf rfl hh3 rfl (rfl) ?_
    refine E_pf rfl hh3 rfl ?_
    have hh6 : HH (pt g3 77 15 (gi g3 77 13)) := HH_pt hh3 rfl (ld_gi hh3 (a := 77) (k := 13) rfl).2.1 (ld_gi hh3 (a := 77) (k := 13) rfl).2.2
    have t6_0 : gn (pt g3 77 15 (gi g3 77 13)) 77 6 = gn g3 77 6 := gn_ne (by first | exact gxx rfl | omega)
    generalize hz6 : (pt g3 77 15 (gi g3 77 13)) = g6 at hh6 t6_0 ⊢
    exact E_ret rfl (by omega)
  · refine E_ifF rfl (decide_eq_false (fun q => hb5 (fun z => q ((nJ_eq0 (by omega)).mpr z)))) ?_
    refine E_c rfl ?_
    refine E_goto rfl ?_
    refine E_pf rfl hh3 rfl ?_
    have hh7 : HH (pt g3 77 15 (-1)) := HH_pt hh3 rfl (by decide) (by decide)
    have t7_0 : gn (pt g3 77 15 (-1)) 77 6 = gn g3 77 6 := gn_ne (by first | exact gxx rfl | omega)
    generalize hz7 : (pt g3 77 15 (-1)) = g7 at hh7 t7_0 ⊢
    exact E_ret rfl (by omega)
noncomputable def VMS : List Rng := (77, 6, 15) :: VM
noncomputable def VQS (h0 h' : pm_H) (r : Option Value) : Prop := HH h' ∧ fr_g VMS h0 h' ∧ RV h' ∧ gn h' 77 6 = 0 ∧ ∃ x : Int32, r = some (.int x)
noncomputable def STM : List Rng := [(77, 0, 0), (77, 6, 6), (77, 7, 15), (83, 4, 4), (84, 24, 29), (85, 64, 79), (86, 64, 79), (101, 0, 9)]
theorem RV_st {h0 h : pm_H} (hh0 : HH h0) (hf : fr_g STM h0 h) (V : RV h0) : RV h := RV_hi hh0 (fun k hk => fr_gn hf (rg_dis_in (l := 0) (u := 23) rfl (Nat.zero_le _) (by omega))) (fun k hk => fr_gn hf (rg_dis_in (l := 0) (u := 63) rfl (Nat.zero_le _) (by omega))) (fun k => fr_gn hf (rg_no rfl _)) V
theorem RI_4 {h : pm_H} (W : W4 h) : RI 4 h := by
  obtain ⟨w1, w2, w3, w4⟩ := W
  refine ⟨w1, w2, fun k hk => ?_⟩
  have hk : k < gn h 84 29 := hk
  omega
theorem JN_zero {h : pm_H} (h1 : gn h 84 28 = 0) : JN h := by
  unfold JN
  rw [h1]
  exact ⟨by omega, fun i hi => absurd hi (Nat.not_lt_zero _), rfl⟩
theorem st_end {h0 h : pm_H} {d : Nat} (hh0 : HH h0) (hV : RV h0) (lv : List (Nat × Value)) (hh : HH h) (hfr : fr_g STM h0 h) (hW : W4 h) (L0 : pm_get lv 0 = some (.ref 77)) : Ends (pm_at tX9_street) (pm_Rt pm_P (d + 39)) (118, lv, [], h, 0, 0) (VQS h0) := by
  refine E_al rfl L0 ?_
  refine E_call rfl (Sp_le (by first | exact Nat.add_le_add_left (Nat.le_of_ble_eq_true rfl) _ | exact Nat.le_of_ble_eq_true rfl | omega) (Sp_and (sp_isOver (d := 0) hh) (sp_over6 (d := 0) hh))) (chk77 hh rfl rfl (by show 0 ≤ 8; decide)) (fun h1 r1 => ?_)
  rintro ⟨⟨e1, hh1, fq1⟩, n61⟩
  rw [e1]
  have fr1 : fr_g STM h0 h1 := fr_trans hfr (fr_wk rfl fq1)
  have wy1 : W4 h1 := W4_fr rfl fq1 hW
  show Ends _ _ (122, lv, [], h1, 0, 0) _
  refine E_al rfl L0 ?_
  have b2 : gn h1 77 12 ≤ 3 := gn_hi hh1 rfl (by decide)
  refine E_gf rfl hh1 rfl (gi_gn hh1 rfl (by decide)) ?_
  by_cases hb3 : (gn h1 77 12) = 0
  · refine E_ifT rfl (decide_eq_true ((nJ_eq0 (by omega)).mpr hb3)) ?_
    refine E_al rfl L0 ?_
    refine E_ci 4 rfl ci4 ?_
    refine E_ci 0 rfl ci0 ?_
    refine E_call rfl (Sp_le (by first | exact Nat.add_le_add_left (Nat.le_of_ble_eq_true rfl) _ | exact Nat.le_of_ble_eq_true rfl | omega) (sp_copyStreet (d := 0) hh1 (by omega) (by omega) (by omega))) (chk77 hh1 rfl rfl (by show 0 ≤ 8; decide)) (fun h4 r4 => ?_)
    rintro ⟨e4, hh4, fq4, ka4, kb4, kc4, kd4⟩
    rw [e4]
    have V1 := RV_st hh0 fr1 hV
    have V4 : RV h4 := ⟨fun r hr => if e : r = 0 then (by rw [e]; exact ka4 (RI_4 wy1)) else kc4 r (by omega) e (V1.1 r hr), fun r hr => if e : r = 0 then (by rw [e]; exact kb4 (V1.2 4 (by omega))) else kd4 r (by omega) e (V1.2 r hr)⟩
    have fw4 : fr_g VMS h0 h4 := fr_trans (fr_wk rfl fr1) (fr_wk rfl fq4)
    have m64 : gn h4 77 6 = 0 := (fr_gn fq4 (rg_no rfl _)).trans n61
    show Ends _ _ (138, lv, [], h4, 0, 0) _
    refine E_al rfl L0 ?_
    refine E_gr rfl hh4 (q := 83) rfl ?_
    refine E_ci 0 rfl ci0 ?_
    refine E_ial rfl hh4 rfl (by omega) (by decide) (show gi h4 83 0 = (gi h4 83 0) from rfl) ?_
    exact E_rti rfl ⟨hh4, fw4, V4, m64, _, rfl⟩
  · refine E_ifF rfl (decide_eq_false (fun q => hb3 ((nJ_eq0 (by omega)).mp q))) ?_
    refine E_c rfl ?_
    exact E_rti rfl ⟨hh1, fr_wk rfl fr1, RV_st hh0 fr1 hV, n61, _, rfl⟩
theorem st_loop {h0 : pm_H} {d : Nat} (hh0 : HH h0) (hV : RV h0) (u : Nat) : ∀ {h : pm_H} {L : Nat} (lv : List (Nat × Value)), HH h → gn h 77 9 ≤ gn h 77 7 → gn h 77 7 ≤ gn h 77 6 → (gn h 77 8 = 0 ∨ gn h 77 9 < gn h 77 7) → fr_g STM h0 h → W4 h → gi h 83 4 = nJ L → L ≤ 501 → (gn h 77 12 = 0 → L ≤ gn h 77 9) → (L = 0 → gn h 84 27 = 0) → (gn h 77 12 = 0 → 501 ≤ u + gn h 77 9) → pm_get lv 0 = some (.ref 77) → Ends (pm_at tX9_street) (pm_Rt pm_P (d + 39)) (13, lv, [], h, 0, 0) (VQS h0) := by
  induction u with
  | zero =>
    intro h L lv hh hr1 hr2 hr3 hfr hW hl hL1 hL2 hcar hu L0
    have h5 := b500 hh
    refine E_al rfl L0 ?_
    refine E_call rfl (Sp_le (by first | exact Nat.add_le_add_left (Nat.le_of_ble_eq_true rfl) _ | exact Nat.le_of_ble_eq_true rfl | omega) (sp_isGood (d := 0) hh)) (chk77 hh rfl rfl (by show 0 ≤ 8; decide)) (fun h1 r1 => ?_)
    rintro ⟨e1, f1⟩
    rw [e1]
    rcases f1 with ⟨gd1, f1⟩ | ⟨gd1, f1⟩
    · rw [f1]
      show Ends _ _ (17, lv, [.int (nJ 0)], h, 0, 0) _
      refine E_ifT rfl (by decide) ?_
      exact st_end hh0 hV lv hh hfr hW L0
    · rw [f1]
      show Ends _ _ (17, lv, [.int (nJ 1)], h, 0, 0) _
      refine E_ifF rfl (by decide) ?_
      refine E_al rfl L0 ?_
      have b2 : gn h 77 8 ≤ 4 := gn_hi hh rfl (by decide)
      refine E_gf rfl hh rfl (gi_gn hh rfl (by decide)) ?_
      by_cases hb3 : (gn h 77 8) = 0
      · refine E_ifT rfl (decide_eq_true ((nJ_eq0 (by omega)).mpr hb3)) ?_
        exact st_end hh0 hV lv hh hfr hW L0
      · refine E_ifF rfl (decide_eq_false (fun q => hb3 ((nJ_eq0 (by omega)).mp q))) ?_
        exfalso; omega
  | succ u ih =>
    intro h L lv hh hr1 hr2 hr3 hfr hW hl hL1 hL2 hcar hu L0
    have h5 := b500 hh
    refine E_al rfl L0 ?_
    refine E_call rfl (Sp_le (by first | exact Nat.add_le_add_left (Nat.le_of_ble_eq_true rfl) _ | exact Nat.le_of_ble_eq_true rfl | omega) (sp_isGood (d := 0) hh)) (chk77 hh rfl rfl (by show 0 ≤ 8; decide)) (fun h1 r1 => ?_)
    rintro ⟨e1, f1⟩
    rw [e1]
    rcases f1 with ⟨gd1, f1⟩ | ⟨gd1, f1⟩
    · rw [f1]
      show Ends _ _ (17, lv, [.int (nJ 0)], h, 0, 0) _
      refine E_ifT rfl (by decide) ?_
      exact st_end hh0 hV lv hh hfr hW L0
    · rw [f1]
      show Ends _ _ (17, lv, [.int (nJ 1)], h, 0, 0) _
      refine E_ifF rfl (by decide) ?_
      refine E_al rfl L0 ?_
      have b2 : gn h 77 8 ≤ 4 := gn_hi hh rfl (by decide)
      refine E_gf rfl hh rfl (gi_gn hh rfl (by decide)) ?_
      by_cases hb3 : (gn h 77 8) = 0
      · refine E_ifT rfl (decide_eq_true ((nJ_eq0 (by omega)).mpr hb3)) ?_
        exact st_end hh0 hV lv hh hfr hW L0
      · refine E_ifF rfl (decide_eq_false (fun q => hb3 ((nJ_eq0 (by omega)).mp q))) ?_
        refine E_al rfl L0 ?_
        refine E_gr rfl hh (q := 83) rfl ?_
        refine E_ci 4 rfl ci4 ?_
        refine E_ial rfl hh rfl (by omega) (by decide) (show gi h 83 4 = nJ L from hl) ?_
        by_cases hb4 : ¬ L = 0
        · refine E_ifT rfl (decide_eq_true (fun q => hb4 ((nJ_eq0 (by omega)).mp q))) ?_
          refine E_al rfl L0 ?_
          refine E_call rfl (Sp_le (by first | exact Nat.add_le_add_left (Nat.le_of_ble_eq_true rfl) _ | exact Nat.le_of_ble_eq_true rfl | omega) (sp_lineHere (d := 0) hh (by omega) (by omega) (by omega) hW)) (chk77 hh rfl rfl (by show 0 ≤ 8; decide)) (fun h5 r5 => ?_)
          rintro ⟨e5, ⟨hh5, ra5, rb5, rc5⟩, fq5, mo5, wy5⟩
          rw [e5]
          have fr5 : fr_g STM h0 h5 := fr_trans hfr (fr_wk rfl fq5)
          have l5 : gi h5 83 4 = nJ L := by rw [fr_gi fq5 (rg_no rfl _)]; exact hl
          show Ends _ _ (94, lv, [], h5, 0, 0) _
          refine E_al rfl L0 ?_
          refine E_call rfl (Sp_le (by first | exact Nat.add_le_add_left (Nat.le_of_ble_eq_true rfl) _ | exact Nat.le_of_ble_eq_true rfl | omega) (sp_isGood (d := 0) hh5)) (chk77 hh5 rfl rfl (by show 0 ≤ 8; decide)) (fun h6 r6 => ?_)
          rintro ⟨e6, f6⟩
          rw [e6]
          rcases f6 with ⟨gd6, f6⟩ | ⟨gd6, f6⟩
          · rw [f6]
            show Ends _ _ (98, lv, [.int (nJ 0)], h5, 0, 0) _
            refine E_ifT rfl (by decide) ?_
            refine E_al rfl L0 ?_
            refine E_gr rfl hh5 (q := 83) rfl ?_
            refine E_ci 4 rfl ci4 ?_
            refine E_dup2 rfl rfl rfl ?_
            refine E_ial rfl hh5 rfl (by omega) (by decide) (show gi h5 83 4 = nJ L from l5) ?_
            refine E_ci 1 rfl ci1 ?_
            refine E_bin rfl (nJ_add _ _) ?_
            refine E_ias rfl hh5 rfl (by omega) (by decide) ?_
            have hh7 : HH (pt h5 83 4 (nJ ((L + 1)))) := HH_ptn hh5 (bd_u rfl (by omega)) (by omega) (by omega) (by omega)
            have fr7 : fr_g STM h0 (pt h5 83 4 (nJ ((L + 1)))) := fr_ptr (l := 4) (u := 4) rfl (by omega) (by omega) fr5
            have t7_0 : gn (pt h5 83 4 (nJ ((L + 1)))) 77 6 = gn h5 77 6 := gn_ne (by first | exact gxx rfl | omega)
            have t7_1 : gn (pt h5 83 4 (nJ ((L + 1)))) 77 7 = gn h5 77 7 := gn_ne (by first | exact gxx rfl | omega)
            have t7_2 : gn (pt h5 83 4 (nJ ((L + 1)))) 77 8 = gn h5 77 8 := gn_ne (by first | exact gxx rfl | omega)
            have t7_3 : gn (pt h5 83 4 (nJ ((L + 1)))) 77 9 = gn h5 77 9 := gn_ne (by first | exact gxx rfl | omega)
            have t7_4 : gn (pt h5 83 4 (nJ ((L + 1)))) 77 12 = gn h5 77 12 := gn_ne (by first | exact gxx rfl | omega)
            have t7_5 : gn (pt h5 83 4 (nJ ((L + 1)))) 84 24 = gn h5 84 24 := gn_ne (by first | exact gxx rfl | omega)
            have t7_6 : gn (pt h5 83 4 (nJ ((L + 1)))) 84 27 = gn h5 84 27 := gn_ne (by first | exact gxx rfl | omega)
            have t7_7 : gn (pt h5 83 4 (nJ ((L + 1)))) 84 28 = gn h5 84 28 := gn_ne (by first | exact gxx rfl | omega)
            have t7_8 : gn (pt h5 83 4 (nJ ((L + 1)))) 84 29 = gn h5 84 29 := gn_ne (by first | exact gxx rfl | omega)
            generalize hz7 : (pt h5 83 4 (nJ ((L + 1)))) = g7 at hh7 fr7 t7_0 t7_1 t7_2 t7_3 t7_4 t7_5 t7_6 t7_7 t7_8 ⊢
            refine E_goto rfl ?_
            exact ih (L := L + 1) lv hh7 (by omega) (by omega) (by omega) fr7 (W4_eq (fun k => by rw [← hz7]; exact gn_ne (by first | exact gxx rfl | omega)) (fun k => by rw [← hz7]; exact gn_ne (by first | exact gxx rfl | omega)) (fun k => by rw [← hz7]; exact gn_ne (by first | exact gxx rfl | omega)) wy5) (by rw [← hz7]; exact gi_pt hh5 (bd_u rfl (by omega)) (ai_lo _) (ai_hi _)) (by omega) (fun q => by omega) (fun q => by omega) (fun q => by omega) L0
          · rw [f6]
            show Ends _ _ (98, lv, [.int (nJ 1)], h5, 0, 0) _
            refine E_ifF rfl (by decide) ?_
            refine E_al rfl L0 ?_
            refine E_call rfl (Sp_le (by first | exact Nat.add_le_add_left (Nat.le_of_ble_eq_true rfl) _ | exact Nat.le_of_ble_eq_true rfl | omega) (sp_closes (d := 0) hh5 (by omega) (by omega) (by omega))) (chk77 hh5 rfl rfl (by show 0 ≤ 8; decide)) (fun h8 r8 => ?_)
            rintro ⟨e8, ⟨hh8, ra8, rb8, rc8⟩, fq8, mo8, cl8⟩
            rw [e8]
            have fr8 : fr_g STM h0 h8 := fr_trans fr5 (fr_wk rfl fq8)
            have wy8 : W4 h8 := W4_fr rfl fq8 wy5
            have l8 : gi h8 83 4 = nJ L := by rw [fr_gi fq8 (rg_no rfl _)]; exact l5
            show Ends _ _ (105, lv, [], h8, 0, 0) _
            refine E_al rfl L0 ?_
            refine E_gr rfl hh8 (q := 83) rfl ?_
            refine E_ci 4 rfl ci4 ?_
            refine E_dup2 rfl rfl rfl ?_
            refine E_ial rfl hh8 rfl (by omega) (by decide) (show gi h8 83 4 = nJ L from l8) ?_
            refine E_ci 1 rfl ci1 ?_
            refine E_bin rfl (nJ_add _ _) ?_
            refine E_ias rfl hh8 rfl (by omega) (by decide) ?_
            have hh9 : HH (pt h8 83 4 (nJ ((L + 1)))) := HH_ptn hh8 (bd_u rfl (by omega)) (by omega) (by omega) (by omega)
            have fr9 : fr_g STM h0 (pt h8 83 4 (nJ ((L + 1)))) := fr_ptr (l := 4) (u := 4) rfl (by omega) (by omega) fr8
            have t9_0 : gn (pt h8 83 4 (nJ ((L + 1)))) 77 6 = gn h8 77 6 := gn_ne (by first | exact gxx rfl | omega)
            have t9_1 : gn (pt h8 83 4 (nJ ((L + 1)))) 77 7 = gn h8 77 7 := gn_ne (by first | exact gxx rfl | omega)
            have t9_2 : gn (pt h8 83 4 (nJ ((L + 1)))) 77 8 = gn h8 77 8 := gn_ne (by first | exact gxx rfl | omega)
            have t9_3 : gn (pt h8 83 4 (nJ ((L + 1)))) 77 9 = gn h8 77 9 := gn_ne (by first | exact gxx rfl | omega)
            have t9_4 : gn (pt h8 83 4 (nJ ((L + 1)))) 77 12 = gn h8 77 12 := gn_ne (by first | exact gxx rfl | omega)
            have t9_5 : gn (pt h8 83 4 (nJ ((L + 1)))) 84 24 = gn h8 84 24 := gn_ne (by first | exact gxx rfl | omega)
            have t9_6 : gn (pt h8 83 4 (nJ ((L + 1)))) 84 27 = gn h8 84 27 := gn_ne (by first | exact gxx rfl | omega)
            have t9_7 : gn (pt h8 83 4 (nJ ((L + 1)))) 84 28 = gn h8 84 28 := gn_ne (by first | exact gxx rfl | omega)
            have t9_8 : gn (pt h8 83 4 (nJ ((L + 1)))) 84 29 = gn h8 84 29 := gn_ne (by first | exact gxx rfl | omega)
            generalize hz9 : (pt h8 83 4 (nJ ((L + 1)))) = g9 at hh9 fr9 t9_0 t9_1 t9_2 t9_3 t9_4 t9_5 t9_6 t9_7 t9_8 ⊢
            refine E_goto rfl ?_
            exact ih (L := L + 1) lv hh9 (by omega) (by omega) (by omega) fr9 (W4_eq (fun k => by rw [← hz9]; exact gn_ne (by first | exact gxx rfl | omega)) (fun k => by rw [← hz9]; exact gn_ne (by first | exact gxx rfl | omega)) (fun k => by rw [← hz9]; exact gn_ne (by first | exact gxx rfl | omega)) wy8) (by rw [← hz9]; exact gi_pt hh8 (bd_u rfl (by omega)) (ai_lo _) (ai_hi _)) (by omega) (fun q => by omega) (fun q => by omega) (fun q => by omega) L0
        · refine E_ifF rfl (decide_eq_false (fun q => hb4 (fun z => q ((nJ_eq0 (by omega)).mpr z)))) ?_
          have hL0 : L = 0 := Classical.not_not.mp hb4
          have hcr := hcar hL0
          refine E_al rfl L0 ?_
          refine E_c rfl ?_
          refine E_call rfl (Sp_le (by first | exact Nat.add_le_add_left (Nat.le_of_ble_eq_true rfl) _ | exact Nat.le_of_ble_eq_true rfl | omega) (sp_asks (d := 0) hh (by omega) (by omega) (by omega))) (chk77 hh rfl rfl (by show 0 ≤ 8; decide)) (fun h10 r10 => ?_)
          rintro ⟨e10, ⟨hh10, ra10, rb10, rc10⟩, fq10, mo10, bd10⟩
          rw [e10]
          have fr10 : fr_g STM h0 h10 := fr_trans hfr (fr_wk rfl fq10)
          have t10_0 : gn h10 77 6 = gn h 77 6 := fr_gn fq10 rfl
          have t10_5 : gn h10 84 24 = gn h 84 24 := fr_gn fq10 rfl
          have t10_6 : gn h10 84 27 = gn h 84 27 := fr_gn fq10 rfl
          have t10_7 : gn h10 84 28 = gn h 84 28 := fr_gn fq10 rfl
          have t10_8 : gn h10 84 29 = gn h 84 29 := fr_gn fq10 rfl
          show Ends _ _ (43, lv, [], h10, 0, 0) _
          have wy10 : W4 h10 := W4_fr rfl fq10 hW
          have l10 : gi h10 83 4 = nJ L := by rw [fr_gi fq10 (rg_no rfl _)]; exact hl
          refine E_al rfl L0 ?_
          refine E_ci 0 rfl ci0 ?_
          refine E_al rfl L0 ?_
          refine E_c rfl ?_
          refine E_ci 1 rfl ci1 ?_
          refine E_ci 8 rfl ci8 ?_
          refine E_call rfl (Sp_le (by first | exact Nat.add_le_add_left (Nat.le_of_ble_eq_true rfl) _ | exact Nat.le_of_ble_eq_true rfl | omega) (sp_number_ (d := 0) hh10 (by omega) (by omega) (by omega) (by omega) (by omega))) (chk77 hh10 rfl rfl (by show 2 ≤ 8; decide)) (fun h11 r11 => ?_)
          rintro ⟨⟨hh11, ra11, rb11, rc11⟩, fq11, mo11, v11, va11, vb11, f11, vc11⟩
          rw [f11]
          have fr11 : fr_g STM h0 h11 := fr_trans fr10 (fr_wk rfl fq11)
          have t11_0 : gn h11 77 6 = gn h10 77 6 := fr_gn fq11 rfl
          have t11_5 : gn h11 84 24 = gn h10 84 24 := fr_gn fq11 rfl
          have t11_6 : gn h11 84 27 = gn h10 84 27 := fr_gn fq11 rfl
          have t11_7 : gn h11 84 28 = gn h10 84 28 := fr_gn fq11 rfl
          have t11_8 : gn h11 84 29 = gn h10 84 29 := fr_gn fq11 rfl
          have u11 : ∀ k, gn h11 85 k = gn h10 85 k := fun k => fr_gn fq11 (rg_no rfl _)
          show Ends _ _ (55, lv, [.int (nJ v11), .int (nJ 0), .ref 77], h11, 0, 0) _
          have wy11 : W4 h11 := W4_fr rfl fq11 wy10
          have l11 : gi h11 83 4 = nJ L := by rw [fr_gi fq11 (rg_no rfl _)]; exact l10
          refine E_call rfl (Sp_le (by first | exact Nat.add_le_add_left (Nat.le_of_ble_eq_true rfl) _ | exact Nat.le_of_ble_eq_true rfl | omega) (sp_tells (d := 0) hh11 (by omega))) (chk77 hh11 rfl rfl (by show 0 ≤ 8; decide)) (fun h12 r12 => ?_)
          rintro ⟨e12, f12⟩
          have hh12 : HH (pt h11 84 24 (nJ v11)) := HH_ptn hh11 rfl (by omega) (by omega) (by omega)
          have fr12 : fr_g STM h0 (pt h11 84 24 (nJ v11)) := fr_ptr (l := 24) (u := 24) rfl (by omega) (by omega) fr11
          have t12_0 : gn (pt h11 84 24 (nJ v11)) 77 6 = gn h11 77 6 := gn_ne (by first | exact gxx rfl | omega)
          have t12_1 : gn (pt h11 84 24 (nJ v11)) 77 7 = gn h11 77 7 := gn_ne (by first | exact gxx rfl | omega)
          have t12_2 : gn (pt h11 84 24 (nJ v11)) 77 8 = gn h11 77 8 := gn_ne (by first | exact gxx rfl | omega)
          have t12_3 : gn (pt h11 84 24 (nJ v11)) 77 9 = gn h11 77 9 := gn_ne (by first | exact gxx rfl | omega)
          have t12_4 : gn (pt h11 84 24 (nJ v11)) 77 12 = gn h11 77 12 := gn_ne (by first | exact gxx rfl | omega)
          have t12_5 : gn (pt h11 84 24 (nJ v11)) 84 24 = v11 := gn_ptn hh11 rfl (by omega) (by omega) (by omega)
          have t12_6 : gn (pt h11 84 24 (nJ v11)) 84 27 = gn h11 84 27 := gn_ne (by first | exact gxx rfl | omega)
          have t12_7 : gn (pt h11 84 24 (nJ v11)) 84 28 = gn h11 84 28 := gn_ne (by first | exact gxx rfl | omega)
          have t12_8 : gn (pt h11 84 24 (nJ v11)) 84 29 = gn h11 84 29 := gn_ne (by first | exact gxx rfl | omega)
          have u12 : ∀ k, gn (pt h11 84 24 (nJ v11)) 85 k = gn h11 85 k := fun k => gn_ne (by first | exact gxx rfl | omega)
          have y12 : ∀ k, gn (pt h11 84 24 (nJ v11)) 86 k = gn h11 86 k := fun k => gn_ne (by first | exact gxx rfl | omega)
          rw [e12, f12]
          show Ends _ _ (58, lv, [], (pt h11 84 24 (nJ v11)), 0, 0) _
          generalize hz12 : (pt h11 84 24 (nJ v11)) = g12 at hh12 fr12 t12_0 t12_1 t12_2 t12_3 t12_4 t12_5 t12_6 t12_7 t12_8 u12 y12 ⊢
          have wy12 : W4 g12 := by
            have wo := wy11
            refine ⟨by omega, fun c hc => by omega, JN_eq (by omega) y12 wo.2.2.1, by have := wo.2.2.2; omega⟩
          have l12 : gi g12 83 4 = nJ L := by rw [← hz12, gi_ne (by first | exact gxx rfl | omega)]; exact l11
          refine E_al rfl L0 ?_
          refine E_ci 1 rfl ci1 ?_
          refine E_al rfl L0 ?_
          refine E_c rfl ?_
          refine E_ci 0 rfl ci0 ?_
          refine E_ci 3 rfl ci3 ?_
          refine E_call rfl (Sp_le (by first | exact Nat.add_le_add_left (Nat.le_of_ble_eq_true rfl) _ | exact Nat.le_of_ble_eq_true rfl | omega) (sp_number_ (d := 0) hh12 (by omega) (by omega) (by omega) (by omega) (by omega))) (chk77 hh12 rfl rfl (by show 2 ≤ 8; decide)) (fun h13 r13 => ?_)
          rintro ⟨⟨hh13, ra13, rb13, rc13⟩, fq13, mo13, v13, va13, vb13, f13, vc13⟩
          rw [f13]
          have fr13 : fr_g STM h0 h13 := fr_trans fr12 (fr_wk rfl fq13)
          have t13_0 : gn h13 77 6 = gn g12 77 6 := fr_gn fq13 rfl
          have t13_5 : gn h13 84 24 = gn g12 84 24 := fr_gn fq13 rfl
          have t13_6 : gn h13 84 27 = gn g12 84 27 := fr_gn fq13 rfl
          have t13_7 : gn h13 84 28 = gn g12 84 28 := fr_gn fq13 rfl
          have t13_8 : gn h13 84 29 = gn g12 84 29 := fr_gn fq13 rfl
          have u13 : ∀ k, gn h13 85 k = gn g12 85 k := fun k => fr_gn fq13 (rg_no rfl _)
          show Ends _ _ (69, lv, [.int (nJ v13), .int (nJ 1), .ref 77], h13, 0, 0) _
          have wy13 : W4 h13 := W4_fr rfl fq13 wy12
          have l13 : gi h13 83 4 = nJ L := by rw [fr_gi fq13 (rg_no rfl _)]; exact l12
          refine E_call rfl (Sp_le (by first | exact Nat.add_le_add_left (Nat.le_of_ble_eq_true rfl) _ | exact Nat.le_of_ble_eq_true rfl | omega) (sp_tells (d := 0) hh13 (by omega))) (chk77 hh13 rfl rfl (by show 0 ≤ 8; decide)) (fun h14 r14 => ?_)
          rintro ⟨e14, f14⟩
          have hh14 : HH (pt h13 84 25 (nJ v13)) := HH_ptn hh13 rfl (by omega) (by omega) (by omega)
          have fr14 : fr_g STM h0 (pt h13 84 25 (nJ v13)) := fr_ptr (l := 25) (u := 25) rfl (by omega) (by omega) fr13
          have t14_0 : gn (pt h13 84 25 (nJ v13)) 77 6 = gn h13 77 6 := gn_ne (by first | exact gxx rfl | omega)
          have t14_1 : gn (pt h13 84 25 (nJ v13)) 77 7 = gn h13 77 7 := gn_ne (by first | exact gxx rfl | omega)
          have t14_2 : gn (pt h13 84 25 (nJ v13)) 77 8 = gn h13 77 8 := gn_ne (by first | exact gxx rfl | omega)
          have t14_3 : gn (pt h13 84 25 (nJ v13)) 77 9 = gn h13 77 9 := gn_ne (by first | exact gxx rfl | omega)
          have t14_4 : gn (pt h13 84 25 (nJ v13)) 77 12 = gn h13 77 12 := gn_ne (by first | exact gxx rfl | omega)
          have t14_5 : gn (pt h13 84 25 (nJ v13)) 84 24 = gn h13 84 24 := gn_ne (by first | exact gxx rfl | omega)
          have t14_6 : gn (pt h13 84 25 (nJ v13)) 84 27 = gn h13 84 27 := gn_ne (by first | exact gxx rfl | omega)
          have t14_7 : gn (pt h13 84 25 (nJ v13)) 84 28 = gn h13 84 28 := gn_ne (by first | exact gxx rfl | omega)
          have t14_8 : gn (pt h13 84 25 (nJ v13)) 84 29 = gn h13 84 29 := gn_ne (by first | exact gxx rfl | omega)
          have u14 : ∀ k, gn (pt h13 84 25 (nJ v13)) 85 k = gn h13 85 k := fun k => gn_ne (by first | exact gxx rfl | omega)
          have y14 : ∀ k, gn (pt h13 84 25 (nJ v13)) 86 k = gn h13 86 k := fun k => gn_ne (by first | exact gxx rfl | omega)
          rw [e14, f14]
          show Ends _ _ (72, lv, [], (pt h13 84 25 (nJ v13)), 0, 0) _
          generalize hz14 : (pt h13 84 25 (nJ v13)) = g14 at hh14 fr14 t14_0 t14_1 t14_2 t14_3 t14_4 t14_5 t14_6 t14_7 t14_8 u14 y14 ⊢
          have wy14 : W4 g14 := by
            have wo := wy13
            refine ⟨by omega, fun c hc => by omega, JN_eq (by omega) y14 wo.2.2.1, by have := wo.2.2.2; omega⟩
          have l14 : gi g14 83 4 = nJ L := by rw [← hz14, gi_ne (by first | exact gxx rfl | omega)]; exact l13
          refine E_al rfl L0 ?_
          refine E_ci 2 rfl ci2 ?_
          refine E_al rfl L0 ?_
          refine E_c rfl ?_
          refine E_ci 0 rfl ci0 ?_
          refine E_ci 10 rfl ci10 ?_
          refine E_call rfl (Sp_le (by first | exact Nat.add_le_add_left (Nat.le_of_ble_eq_true rfl) _ | exact Nat.le_of_ble_eq_true rfl | omega) (sp_number_ (d := 0) hh14 (by omega) (by omega) (by omega) (by omega) (by omega))) (chk77 hh14 rfl rfl (by show 2 ≤ 8; decide)) (fun h15 r15 => ?_)
          rintro ⟨⟨hh15, ra15, rb15, rc15⟩, fq15, mo15, v15, va15, vb15, f15, vc15⟩
          rw [f15]
          have fr15 : fr_g STM h0 h15 := fr_trans fr14 (fr_wk rfl fq15)
          have t15_0 : gn h15 77 6 = gn g14 77 6 := fr_gn fq15 rfl
          have t15_5 : gn h15 84 24 = gn g14 84 24 := fr_gn fq15 rfl
          have t15_6 : gn h15 84 27 = gn g14 84 27 := fr_gn fq15 rfl
          have t15_7 : gn h15 84 28 = gn g14 84 28 := fr_gn fq15 rfl
          have t15_8 : gn h15 84 29 = gn g14 84 29 := fr_gn fq15 rfl
          have u15 : ∀ k, gn h15 85 k = gn g14 85 k := fun k => fr_gn fq15 (rg_no rfl _)
          show Ends _ _ (84, lv, [.int (nJ v15), .int (nJ 2), .ref 77], h15, 0, 0) _
          have wy15 : W4 h15 := W4_fr rfl fq15 wy14
          have l15 : gi h15 83 4 = nJ L := by rw [fr_gi fq15 (rg_no rfl _)]; exact l14
          refine E_call rfl (Sp_le (by first | exact Nat.add_le_add_left (Nat.le_of_ble_eq_true rfl) _ | exact Nat.le_of_ble_eq_true rfl | omega) (sp_tells (d := 0) hh15 (by omega))) (chk77 hh15 rfl rfl (by show 0 ≤ 8; decide)) (fun h16 r16 => ?_)
          rintro ⟨e16, f16⟩
          have hh16 : HH (pt h15 84 26 (nJ v15)) := HH_ptn hh15 rfl (by omega) (by omega) (by omega)
          have fr16 : fr_g STM h0 (pt h15 84 26 (nJ v15)) := fr_ptr (l := 26) (u := 26) rfl (by omega) (by omega) fr15
          have t16_0 : gn (pt h15 84 26 (nJ v15)) 77 6 = gn h15 77 6 := gn_ne (by first | exact gxx rfl | omega)
          have t16_1 : gn (pt h15 84 26 (nJ v15)) 77 7 = gn h15 77 7 := gn_ne (by first | exact gxx rfl | omega)
          have t16_2 : gn (pt h15 84 26 (nJ v15)) 77 8 = gn h15 77 8 := gn_ne (by first | exact gxx rfl | omega)
          have t16_3 : gn (pt h15 84 26 (nJ v15)) 77 9 = gn h15 77 9 := gn_ne (by first | exact gxx rfl | omega)
          have t16_4 : gn (pt h15 84 26 (nJ v15)) 77 12 = gn h15 77 12 := gn_ne (by first | exact gxx rfl | omega)
          have t16_5 : gn (pt h15 84 26 (nJ v15)) 84 24 = gn h15 84 24 := gn_ne (by first | exact gxx rfl | omega)
          have t16_6 : gn (pt h15 84 26 (nJ v15)) 84 27 = gn h15 84 27 := gn_ne (by first | exact gxx rfl | omega)
          have t16_7 : gn (pt h15 84 26 (nJ v15)) 84 28 = gn h15 84 28 := gn_ne (by first | exact gxx rfl | omega)
          have t16_8 : gn (pt h15 84 26 (nJ v15)) 84 29 = gn h15 84 29 := gn_ne (by first | exact gxx rfl | omega)
          have u16 : ∀ k, gn (pt h15 84 26 (nJ v15)) 85 k = gn h15 85 k := fun k => gn_ne (by first | exact gxx rfl | omega)
          have y16 : ∀ k, gn (pt h15 84 26 (nJ v15)) 86 k = gn h15 86 k := fun k => gn_ne (by first | exact gxx rfl | omega)
          rw [e16, f16]
          show Ends _ _ (87, lv, [], (pt h15 84 26 (nJ v15)), 0, 0) _
          generalize hz16 : (pt h15 84 26 (nJ v15)) = g16 at hh16 fr16 t16_0 t16_1 t16_2 t16_3 t16_4 t16_5 t16_6 t16_7 t16_8 u16 y16 ⊢
          have wy16 : W4 g16 := by
            have wo := wy15
            refine ⟨by omega, fun c hc => by omega, JN_eq (by omega) y16 wo.2.2.1, by have := wo.2.2.2; omega⟩
          have l16 : gi g16 83 4 = nJ L := by rw [← hz16, gi_ne (by first | exact gxx rfl | omega)]; exact l15
          refine E_goto rfl ?_
          refine E_al rfl L0 ?_
          refine E_call rfl (Sp_le (by first | exact Nat.add_le_add_left (Nat.le_of_ble_eq_true rfl) _ | exact Nat.le_of_ble_eq_true rfl | omega) (sp_isGood (d := 0) hh16)) (chk77 hh16 rfl rfl (by show 0 ≤ 8; decide)) (fun h17 r17 => ?_)
          rintro ⟨e17, f17⟩
          rw [e17]
          rcases f17 with ⟨gd17, f17⟩ | ⟨gd17, f17⟩
          · rw [f17]
            show Ends _ _ (98, lv, [.int (nJ 0)], g16, 0, 0) _
            refine E_ifT rfl (by decide) ?_
            refine E_al rfl L0 ?_
            refine E_gr rfl hh16 (q := 83) rfl ?_
            refine E_ci 4 rfl ci4 ?_
            refine E_dup2 rfl rfl rfl ?_
            refine E_ial rfl hh16 rfl (by omega) (by decide) (show gi g16 83 4 = nJ L from l16) ?_
            refine E_ci 1 rfl ci1 ?_
            refine E_bin rfl (nJ_add _ _) ?_
            refine E_ias rfl hh16 rfl (by omega) (by decide) ?_
            have hh18 : HH (pt g16 83 4 (nJ ((L + 1)))) := HH_ptn hh16 (bd_u rfl (by omega)) (by omega) (by omega) (by omega)
            have fr18 : fr_g STM h0 (pt g16 83 4 (nJ ((L + 1)))) := fr_ptr (l := 4) (u := 4) rfl (by omega) (by omega) fr16
            have t18_0 : gn (pt g16 83 4 (nJ ((L + 1)))) 77 6 = gn g16 77 6 := gn_ne (by first | exact gxx rfl | omega)
            have t18_1 : gn (pt g16 83 4 (nJ ((L + 1)))) 77 7 = gn g16 77 7 := gn_ne (by first | exact gxx rfl | omega)
            have t18_2 : gn (pt g16 83 4 (nJ ((L + 1)))) 77 8 = gn g16 77 8 := gn_ne (by first | exact gxx rfl | omega)
            have t18_3 : gn (pt g16 83 4 (nJ ((L + 1)))) 77 9 = gn g16 77 9 := gn_ne (by first | exact gxx rfl | omega)
            have t18_4 : gn (pt g16 83 4 (nJ ((L + 1)))) 77 12 = gn g16 77 12 := gn_ne (by first | exact gxx rfl | omega)
            have t18_5 : gn (pt g16 83 4 (nJ ((L + 1)))) 84 24 = gn g16 84 24 := gn_ne (by first | exact gxx rfl | omega)
            have t18_6 : gn (pt g16 83 4 (nJ ((L + 1)))) 84 27 = gn g16 84 27 := gn_ne (by first | exact gxx rfl | omega)
            have t18_7 : gn (pt g16 83 4 (nJ ((L + 1)))) 84 28 = gn g16 84 28 := gn_ne (by first | exact gxx rfl | omega)
            have t18_8 : gn (pt g16 83 4 (nJ ((L + 1)))) 84 29 = gn g16 84 29 := gn_ne (by first | exact gxx rfl | omega)
            generalize hz18 : (pt g16 83 4 (nJ ((L + 1)))) = g18 at hh18 fr18 t18_0 t18_1 t18_2 t18_3 t18_4 t18_5 t18_6 t18_7 t18_8 ⊢
            refine E_goto rfl ?_
            exact ih (L := L + 1) lv hh18 (by omega) (by omega) (by omega) fr18 (W4_eq (fun k => by rw [← hz18]; exact gn_ne (by first | exact gxx rfl | omega)) (fun k => by rw [← hz18]; exact gn_ne (by first | exact gxx rfl | omega)) (fun k => by rw [← hz18]; exact gn_ne (by first | exact gxx rfl | omega)) wy16) (by rw [← hz18]; exact gi_pt hh16 (bd_u rfl (by omega)) (ai_lo _) (ai_hi _)) (by omega) (fun q => by omega) (fun q => by omega) (fun q => by omega) L0
          · rw [f17]
            show Ends _ _ (98, lv, [.int (nJ 1)], g16, 0, 0) _
            refine E_ifF rfl (by decide) ?_
            refine E_al rfl L0 ?_
            refine E_call rfl (Sp_le (by first | exact Nat.add_le_add_left (Nat.le_of_ble_eq_true rfl) _ | exact Nat.le_of_ble_eq_true rfl | omega) (sp_closes (d := 0) hh16 (by omega) (by omega) (by omega))) (chk77 hh16 rfl rfl (by show 0 ≤ 8; decide)) (fun h19 r19 => ?_)
            rintro ⟨e19, ⟨hh19, ra19, rb19, rc19⟩, fq19, mo19, cl19⟩
            rw [e19]
            have fr19 : fr_g STM h0 h19 := fr_trans fr16 (fr_wk rfl fq19)
            have wy19 : W4 h19 := W4_fr rfl fq19 wy16
            have l19 : gi h19 83 4 = nJ L := by rw [fr_gi fq19 (rg_no rfl _)]; exact l16
            show Ends _ _ (105, lv, [], h19, 0, 0) _
            refine E_al rfl L0 ?_
            refine E_gr rfl hh19 (q := 83) rfl ?_
            refine E_ci 4 rfl ci4 ?_
            refine E_dup2 rfl rfl rfl ?_
            refine E_ial rfl hh19 rfl (by omega) (by decide) (show gi h19 83 4 = nJ L from l19) ?_
            refine E_ci 1 rfl ci1 ?_
            refine E_bin rfl (nJ_add _ _) ?_
            refine E_ias rfl hh19 rfl (by omega) (by decide) ?_
            have hh20 : HH (pt h19 83 4 (nJ ((L + 1)))) := HH_ptn hh19 (bd_u rfl (by omega)) (by omega) (by omega) (by omega)
            have fr20 : fr_g STM h0 (pt h19 83 4 (nJ ((L + 1)))) := fr_ptr (l := 4) (u := 4) rfl (by omega) (by omega) fr19
            have t20_0 : gn (pt h19 83 4 (nJ ((L + 1)))) 77 6 = gn h19 77 6 := gn_ne (by first | exact gxx rfl | omega)
            have t20_1 : gn (pt h19 83 4 (nJ ((L + 1)))) 77 7 = gn h19 77 7 := gn_ne (by first | exact gxx rfl | omega)
            have t20_2 : gn (pt h19 83 4 (nJ ((L + 1)))) 77 8 = gn h19 77 8 := gn_ne (by first | exact gxx rfl | omega)
            have t20_3 : gn (pt h19 83 4 (nJ ((L + 1)))) 77 9 = gn h19 77 9 := gn_ne (by first | exact gxx rfl | omega)
            have t20_4 : gn (pt h19 83 4 (nJ ((L + 1)))) 77 12 = gn h19 77 12 := gn_ne (by first | exact gxx rfl | omega)
            have t20_5 : gn (pt h19 83 4 (nJ ((L + 1)))) 84 24 = gn h19 84 24 := gn_ne (by first | exact gxx rfl | omega)
            have t20_6 : gn (pt h19 83 4 (nJ ((L + 1)))) 84 27 = gn h19 84 27 := gn_ne (by first | exact gxx rfl | omega)
            have t20_7 : gn (pt h19 83 4 (nJ ((L + 1)))) 84 28 = gn h19 84 28 := gn_ne (by first | exact gxx rfl | omega)
            have t20_8 : gn (pt h19 83 4 (nJ ((L + 1)))) 84 29 = gn h19 84 29 := gn_ne (by first | exact gxx rfl | omega)
            generalize hz20 : (pt h19 83 4 (nJ ((L + 1)))) = g20 at hh20 fr20 t20_0 t20_1 t20_2 t20_3 t20_4 t20_5 t20_6 t20_7 t20_8 ⊢
            refine E_goto rfl ?_
            exact ih (L := L + 1) lv hh20 (by omega) (by omega) (by omega) fr20 (W4_eq (fun k => by rw [← hz20]; exact gn_ne (by first | exact gxx rfl | omega)) (fun k => by rw [← hz20]; exact gn_ne (by first | exact gxx rfl | omega)) (fun k => by rw [← hz20]; exact gn_ne (by first | exact gxx rfl | omega)) wy19) (by rw [← hz20]; exact gi_pt hh19 (bd_u rfl (by omega)) (ai_lo _) (ai_hi _)) (by omega) (fun q => by omega) (fun q => by omega) (fun q => by omega) L0
theorem tv_street {h0 : pm_H} {d : Nat} (hh0 : HH h0) (hV : RV h0) : Sp (d + 40) 354 h0 [.ref 77] (VQS h0) := by
  refine Sp_of aiX9_street rfl rfl rfl ?_
  refine E_al rfl (show pm_get (lv_args 0 [.ref 77]) 0 = _ from rfl) ?_
  refine E_ci 0 rfl ci0 ?_
  refine E_pf rfl hh0 rfl ?_
  have hh1 : HH (pt h0 77 0 (nJ 0)) := HH_ptn hh0 rfl (by omega) (by omega) (by omega)
  have fr1 : fr_g STM h0 (pt h0 77 0 (nJ 0)) := fr_ptr (l := 0) (u := 0) rfl (by omega) (by omega) (fr_rf STM h0)
  refine E_al rfl (show pm_get (lv_args 0 [.ref 77]) 0 = _ from rfl) ?_
  refine E_call rfl (Sp_le (by first | exact Nat.add_le_add_left (Nat.le_of_ble_eq_true rfl) _ | exact Nat.le_of_ble_eq_true rfl | omega) (sp_clears (d := 0) hh1)) (chk77 hh1 rfl rfl (by show 0 ≤ 8; decide)) (fun h2 r2 => ?_)
  rintro ⟨e2, hh2, fq2, l2, z2⟩
  rw [e2]
  have fr2 : fr_g STM h0 h2 := fr_trans fr1 (fr_wk rfl fq2)
  have wy2 : W4 h2 := ⟨by rw [show gn h2 84 27 = 0 from z2 3 (by omega)]; omega, fun c hc => by rw [show gn h2 84 27 = 0 from z2 3 (by omega)] at hc; omega, JN_zero (z2 4 (by omega)), z2 5 (by omega)⟩
  have c2 : gn h2 84 27 = 0 := z2 3 (by omega)
  show Ends _ _ (9, (lv_args 0 [.ref 77]), [], h2, 0, 0) _
  refine E_al rfl (show pm_get (lv_args 0 [.ref 77]) 0 = _ from rfl) ?_
  refine E_call rfl (Sp_le (by first | exact Nat.add_le_add_left (Nat.le_of_ble_eq_true rfl) _ | exact Nat.le_of_ble_eq_true rfl | omega) (sp_begins (d := 0) hh2)) (chk77 hh2 rfl rfl (by show 0 ≤ 8; decide)) (fun h3 r3 => ?_)
  rintro ⟨e3, ⟨hh3, ra3, rb3, rc3⟩, fq3⟩
  rw [e3]
  have fr3 : fr_g STM h0 h3 := fr_trans fr2 (fr_wk rfl fq3)
  have wy3 : W4 h3 := W4_fr rfl fq3 wy2
  have l3 : gi h3 83 4 = nJ 0 := by rw [fr_gi fq3 (rg_no rfl _)]; exact l2
  have c3 : gn h3 84 27 = 0 := by rw [fr_gn fq3 (rg_no rfl _)]; exact c2
  show Ends _ _ (13, (lv_args 0 [.ref 77]), [], h3, 0, 0) _
  exact st_loop hh0 hV 501 (L := 0) (lv_args 0 [.ref 77]) hh3 ra3 rb3 rc3 fr3 wy3 l3 (by omega) (fun _ => by omega) (fun _ => c3) (fun _ => by omega) (show pm_get (lv_args 0 [.ref 77]) 0 = _ from rfl)
end
section
theorem Go_ifT {look : Nat → Option pm_I} {call : pm_Call} {z : Bool} {t n : Nat} {ρ : List (Nat × Value) × List Value × pm_H × Nat × Nat} {o : pm_H × Option Value} (hz : z = true) (h : pm_Go look call (t, ρ) o) : pm_Go look call (bif z then t else n, ρ) o := by
  subst hz; exact h
theorem Go_ifF {look : Nat → Option pm_I} {call : pm_Call} {z : Bool} {t n : Nat} {ρ : List (Nat × Value) × List Value × pm_H × Nat × Nat} {o : pm_H × Option Value} (hz : z = false) (h : pm_Go look call (n, ρ) o) : pm_Go look call (bif z then t else n, ρ) o := by
  subst hz; exact h
/-- a method's run out of its rows -/
theorem Rt_of {d y : Nat} {h : pm_H} {as : List Value} {h' : pm_H} {r : Option Value} {I : pm_M} (hI : pm_at pm_P y = some I) (hl : (lg_sl as).length ≤ I.2.2.1) (hg : pm_Go (pm_at I.2.2.2.2.2.2.2) (pm_Rt pm_P d) (0, lv_args 0 as, [], h, I.2.2.2.2.2.1, I.2.2.2.2.2.2.1) (h', r)) : pm_Rt pm_P (d + 1) y h as h' r := ⟨I, hI, hl, hg⟩
theorem chkV {k ci mc ms a : Nat} {st fs as : List Value} {w : pm_H × Nat × Nat} (h1 : Nat.ble k st.length = true) (h2 : (st.take k).reverse = .ref a :: as) (h3 : w.1[a]? = some (.inr (ci, fs))) (h4 : Nat.ble (pm_sz (st.drop k)) 8 = true) (h5 : Nat.ble mc w.2.1 = true) (h6 : Nat.ble ms w.2.2 = true) (h7 : Nat.blt ci 100 = true) : pm_chk k (some ci) mc ms st w :=
  ⟨Nat.le_of_ble_eq_true h1, fun q hq => by cases hq; exact ⟨fun _ => ⟨a, fs, as, h2, h3⟩, fun h9 => absurd (Nat.le_of_ble_eq_true h7) (Nat.not_lt.mpr h9)⟩, Nat.le_of_ble_eq_true h4, Nat.le_of_ble_eq_true h5, Nat.le_of_ble_eq_true h6⟩
set_option maxRecDepth 20000 in
set_option maxHeartbeats 4000000 in
theorem rc_0 (d : Nat) : pm_Rt pm_P (d + 1) 56 [.inr (8, [.null, .null, .null, .null, .null, .null, .null, .null, .null, .null, .null, .null]), .inr (6, [.null, .int 0])] [.ref 1] [.inr (8, [.null, .null, .null, .null, .null, .null, .null, .null, .null, .null, .null, .null]), .inr (6, [.ref 2, .int 0]), .inl (1, 500, .inl (fun _ => 0))] none := by
  refine Rt_of aiX6_init (by decide) ?_
  refine Go_st rfl rfl ?_
  refine Go_st rfl rfl ?_
  refine Go_st rfl rfl ?_
  refine Go_st rfl rfl ?_
  refine Go_st rfl rfl ?_
  refine Go_st rfl rfl ?_
  exact Go_ret rfl ⟨rfl, rfl⟩
set_option maxRecDepth 20000 in
set_option maxHeartbeats 4000000 in
theorem rc_1 (d : Nat) : pm_Rt pm_P (d + 1) 52 [.inr (8, [.ref 1, .null, .null, .null, .null, .null, .null, .null, .null, .null, .null, .null]), .inr (6, [.ref 2, .int 0]), .inl (1, 500, .inl (fun _ => 0)), .inr (2, [.null, .int 0, .int 0, .ref 1, .null, .int 0, .int 0, .int 0, .int 0, .int 0]), .inr (5, [.int 0, .int 0, .int 0, .int 0, .int 0, .int 0, .int 0, .null, .null, .null, .null, .null, .null, .null, .null])] [.ref 4] [.inr (8, [.ref 1, .null, .null, .null, .null, .null, .null, .null, .null, .null, .null, .null]), .inr (6, [.ref 2, .int 0]), .inl (1, 500, .inl (fun _ => 0)), .inr (2, [.null, .int 0, .int 0, .ref 1, .null, .int 0, .int 0, .int 0, .int 0, .int 0]), .inr (5, [.int 0, .int 0, .int 0, .int 0, .int 0, .int 0, .int 0, .ref 5, .ref 6, .ref 7, .ref 8, .ref 9, .ref 10, .ref 11, .ref 12]), .inl (0, 8, .inl (fun _ => 0)), .inl (0, 8, .inl (fun _ => 0)), .inl (0, 8, .inl (fun _ => 0)), .inl (0, 8, .inl (fun _ => 0)), .inl (0, 8, .inl (fun _ => 0)), .inl (0, 20, .inl (fun _ => 0)), .inl (0, 20, .inl (fun _ => 0)), .inl (2, 20, .inl (fun _ => 0))] none := by
  refine Rt_of aiX5_init (by decide) ?_
  refine Go_st rfl rfl ?_
  refine Go_st rfl rfl ?_
  refine Go_st rfl rfl ?_
  refine Go_st rfl rfl ?_
  refine Go_st rfl rfl ?_
  refine Go_st rfl rfl ?_
  refine Go_st rfl rfl ?_
  refine Go_st rfl rfl ?_
  refine Go_st rfl rfl ?_
  refine Go_st rfl rfl ?_
  refine Go_st rfl rfl ?_
  refine Go_st rfl rfl ?_
  refine Go_st rfl rfl ?_
  refine Go_st rfl rfl ?_
  refine Go_st rfl rfl ?_
  refine Go_st rfl rfl ?_
  refine Go_st rfl rfl ?_
  refine Go_st rfl rfl ?_
  refine Go_st rfl rfl ?_
  refine Go_st rfl rfl ?_
  refine Go_st rfl rfl ?_
  refine Go_st rfl rfl ?_
  refine Go_st rfl rfl ?_
  refine Go_st rfl rfl ?_
  refine Go_st rfl rfl ?_
  refine Go_st rfl rfl ?_
  refine Go_st rfl rfl ?_
  refine Go_st rfl rfl ?_
  refine Go_st rfl rfl ?_
  refine Go_st rfl rfl ?_
  refine Go_st rfl rfl ?_
  refine Go_st rfl rfl ?_
  refine Go_st rfl rfl ?_
  refine Go_st rfl rfl ?_
  exact Go_ret rfl ⟨rfl, rfl⟩
set_option maxRecDepth 20000 in
set_option maxHeartbeats 4000000 in
theorem rc_2 (d : Nat) : pm_Rt pm_P (d + 1) 13 [.inr (8, [.ref 1, .null, .null, .null, .null, .null, .null, .null, .null, .null, .null, .null]), .inr (6, [.ref 2, .int 0]), .inl (1, 500, .inl (fun _ => 0)), .inr (2, [.ref 4, .int 0, .int 0, .ref 1, .null, .int 0, .int 0, .int 0, .int 0, .int 0]), .inr (5, [.int 0, .int 0, .int 0, .int 0, .int 0, .int 0, .int 0, .ref 5, .ref 6, .ref 7, .ref 8, .ref 9, .ref 10, .ref 11, .ref 12]), .inl (0, 8, .inl (fun _ => 0)), .inl (0, 8, .inl (fun _ => 0)), .inl (0, 8, .inl (fun _ => 0)), .inl (0, 8, .inl (fun _ => 0)), .inl (0, 8, .inl (fun _ => 0)), .inl (0, 20, .inl (fun _ => 0)), .inl (0, 20, .inl (fun _ => 0)), .inl (2, 20, .inl (fun _ => 0)), .inr (0, [.null, .int 0])] [.ref 13] [.inr (8, [.ref 1, .null, .null, .null, .null, .null, .null, .null, .null, .null, .null, .null]), .inr (6, [.ref 2, .int 0]), .inl (1, 500, .inl (fun _ => 0)), .inr (2, [.ref 4, .int 0, .int 0, .ref 1, .null, .int 0, .int 0, .int 0, .int 0, .int 0]), .inr (5, [.int 0, .int 0, .int 0, .int 0, .int 0, .int 0, .int 0, .ref 5, .ref 6, .ref 7, .ref 8, .ref 9, .ref 10, .ref 11, .ref 12]), .inl (0, 8, .inl (fun _ => 0)), .inl (0, 8, .inl (fun _ => 0)), .inl (0, 8, .inl (fun _ => 0)), .inl (0, 8, .inl (fun _ => 0)), .inl (0, 8, .inl (fun _ => 0)), .inl (0, 20, .inl (fun _ => 0)), .inl (0, 20, .inl (fun _ => 0)), .inl (2, 20, .inl (fun _ => 0)), .inr (0, [.ref 14, .int 0]), .inl (0, 10, .inl (fun _ => 0))] none := by
  refine Rt_of aiX0_init (by decide) ?_
  refine Go_st rfl rfl ?_
  refine Go_st rfl rfl ?_
  refine Go_st rfl rfl ?_
  refine Go_st rfl rfl ?_
  refine Go_st rfl rfl ?_
  refine Go_st rfl rfl ?_
  exact Go_ret rfl ⟨rfl, rfl⟩
set_option maxRecDepth 20000 in
set_option maxHeartbeats 4000000 in
theorem rc_3 (d : Nat) : pm_Rt pm_P (d + 2) 26 [.inr (8, [.ref 1, .null, .null, .null, .null, .null, .null, .null, .null, .null, .null, .null]), .inr (6, [.ref 2, .int 0]), .inl (1, 500, .inl (fun _ => 0)), .inr (2, [.null, .int 0, .int 0, .null, .null, .int 0, .int 0, .int 0, .int 0, .int 0])] [.ref 3, .ref 1] [.inr (8, [.ref 1, .null, .null, .null, .null, .null, .null, .null, .null, .null, .null, .null]), .inr (6, [.ref 2, .int 0]), .inl (1, 500, .inl (fun _ => 0)), .inr (2, [.ref 4, .int 0, .int (-1), .ref 1, .ref 13, .int 0, .int 0, .int 0, .int 0, .int 0]), .inr (5, [.int 0, .int 0, .int 0, .int 0, .int 0, .int 0, .int 0, .ref 5, .ref 6, .ref 7, .ref 8, .ref 9, .ref 10, .ref 11, .ref 12]), .inl (0, 8, .inl (fun _ => 0)), .inl (0, 8, .inl (fun _ => 0)), .inl (0, 8, .inl (fun _ => 0)), .inl (0, 8, .inl (fun _ => 0)), .inl (0, 8, .inl (fun _ => 0)), .inl (0, 20, .inl (fun _ => 0)), .inl (0, 20, .inl (fun _ => 0)), .inl (2, 20, .inl (fun _ => 0)), .inr (0, [.ref 14, .int 0]), .inl (0, 10, .inl (fun _ => 0))] none := by
  refine Rt_of aiX2_init (by decide) ?_
  refine Go_st rfl rfl ?_
  refine Go_st rfl rfl ?_
  refine Go_st rfl rfl ?_
  refine Go_st rfl rfl ?_
  refine Go_st rfl rfl ?_
  refine Go_st rfl rfl ?_
  refine Go_st rfl rfl ?_
  refine Go_st rfl rfl ?_
  refine Go_call rfl (rc_1 d) (chkV rfl rfl rfl rfl rfl rfl rfl) ?_
  refine Go_st rfl rfl ?_
  refine Go_st rfl rfl ?_
  refine Go_st rfl rfl ?_
  refine Go_st rfl rfl ?_
  refine Go_call rfl (rc_2 d) (chkV rfl rfl rfl rfl rfl rfl rfl) ?_
  refine Go_st rfl rfl ?_
  refine Go_st rfl rfl ?_
  refine Go_st rfl rfl ?_
  refine Go_st rfl rfl ?_
  exact Go_ret rfl ⟨rfl, rfl⟩
set_option maxRecDepth 20000 in
set_option maxHeartbeats 4000000 in
theorem rc_4 (d : Nat) : pm_Rt pm_P (d + 1) 52 [.inr (8, [.ref 1, .ref 3, .null, .null, .null, .null, .null, .null, .null, .null, .null, .null]), .inr (6, [.ref 2, .int 0]), .inl (1, 500, .inl (fun _ => 0)), .inr (2, [.ref 4, .int 0, .int (-1), .ref 1, .ref 13, .int 0, .int 0, .int 0, .int 0, .int 0]), .inr (5, [.int 0, .int 0, .int 0, .int 0, .int 0, .int 0, .int 0, .ref 5, .ref 6, .ref 7, .ref 8, .ref 9, .ref 10, .ref 11, .ref 12]), .inl (0, 8, .inl (fun _ => 0)), .inl (0, 8, .inl (fun _ => 0)), .inl (0, 8, .inl (fun _ => 0)), .inl (0, 8, .inl (fun _ => 0)), .inl (0, 8, .inl (fun _ => 0)), .inl (0, 20, .inl (fun _ => 0)), .inl (0, 20, .inl (fun _ => 0)), .inl (2, 20, .inl (fun _ => 0)), .inr (0, [.ref 14, .int 0]), .inl (0, 10, .inl (fun _ => 0)), .inr (5, [.int 0, .int 0, .int 0, .int 0, .int 0, .int 0, .int 0, .null, .null, .null, .null, .null, .null, .null, .null])] [.ref 15] [.inr (8, [.ref 1, .ref 3, .null, .null, .null, .null, .null, .null, .null, .null, .null, .null]), .inr (6, [.ref 2, .int 0]), .inl (1, 500, .inl (fun _ => 0)), .inr (2, [.ref 4, .int 0, .int (-1), .ref 1, .ref 13, .int 0, .int 0, .int 0, .int 0, .int 0]), .inr (5, [.int 0, .int 0, .int 0, .int 0, .int 0, .int 0, .int 0, .ref 5, .ref 6, .ref 7, .ref 8, .ref 9, .ref 10, .ref 11, .ref 12]), .inl (0, 8, .inl (fun _ => 0)), .inl (0, 8, .inl (fun _ => 0)), .inl (0, 8, .inl (fun _ => 0)), .inl (0, 8, .inl (fun _ => 0)), .inl (0, 8, .inl (fun _ => 0)), .inl (0, 20, .inl (fun _ => 0)), .inl (0, 20, .inl (fun _ => 0)), .inl (2, 20, .inl (fun _ => 0)), .inr (0, [.ref 14, .int 0]), .inl (0, 10, .inl (fun _ => 0)), .inr (5, [.int 0, .int 0, .int 0, .int 0, .int 0, .int 0, .int 0, .ref 16, .ref 17, .ref 18, .ref 19, .ref 20, .ref 21, .ref 22, .ref 23]), .inl (0, 8, .inl (fun _ => 0)), .inl (0, 8, .inl (fun _ => 0)), .inl (0, 8, .inl (fun _ => 0)), .inl (0, 8, .inl (fun _ => 0)), .inl (0, 8, .inl (fun _ => 0)), .inl (0, 20, .inl (fun _ => 0)), .inl (0, 20, .inl (fun _ => 0)), .inl (2, 20, .inl (fun _ => 0))] none := by
  refine Rt_of aiX5_init (by decide) ?_
  refine Go_st rfl rfl ?_
  refine Go_st rfl rfl ?_
  refine Go_st rfl rfl ?_
  refine Go_st rfl rfl ?_
  refine Go_st rfl rfl ?_
  refine Go_st rfl rfl ?_
  refine Go_st rfl rfl ?_
  refine Go_st rfl rfl ?_
  refine Go_st rfl rfl ?_
  refine Go_st rfl rfl ?_
  refine Go_st rfl rfl ?_
  refine Go_st rfl rfl ?_
  refine Go_st rfl rfl ?_
  refine Go_st rfl rfl ?_
  refine Go_st rfl rfl ?_
  refine Go_st rfl rfl ?_
  refine Go_st rfl rfl ?_
  refine Go_st rfl rfl ?_
  refine Go_st rfl rfl ?_
  refine Go_st rfl rfl ?_
  refine Go_st rfl rfl ?_
  refine Go_st rfl rfl ?_
  refine Go_st rfl rfl ?_
  refine Go_st rfl rfl ?_
  refine Go_st rfl rfl ?_
  refine Go_st rfl rfl ?_
  refine Go_st rfl rfl ?_
  refine Go_st rfl rfl ?_
  refine Go_st rfl rfl ?_
  refine Go_st rfl rfl ?_
  refine Go_st rfl rfl ?_
  refine Go_st rfl rfl ?_
  refine Go_st rfl rfl ?_
  refine Go_st rfl rfl ?_
  exact Go_ret rfl ⟨rfl, rfl⟩
set_option maxRecDepth 20000 in
set_option maxHeartbeats 4000000 in
theorem rc_5 (d : Nat) : pm_Rt pm_P (d + 1) 52 [.inr (8, [.ref 1, .ref 3, .ref 15, .ref 24, .null, .null, .null, .null, .null, .null, .null, .null]), .inr (6, [.ref 2, .int 0]), .inl (1, 500, .inl (fun _ => 0)), .inr (2, [.ref 4, .int 0, .int (-1), .ref 1, .ref 13, .int 0, .int 0, .int 0, .int 0, .int 0]), .inr (5, [.int 0, .int 0, .int 0, .int 0, .int 0, .int 0, .int 0, .ref 5, .ref 6, .ref 7, .ref 8, .ref 9, .ref 10, .ref 11, .ref 12]), .inl (0, 8, .inl (fun _ => 0)), .inl (0, 8, .inl (fun _ => 0)), .inl (0, 8, .inl (fun _ => 0)), .inl (0, 8, .inl (fun _ => 0)), .inl (0, 8, .inl (fun _ => 0)), .inl (0, 20, .inl (fun _ => 0)), .inl (0, 20, .inl (fun _ => 0)), .inl (2, 20, .inl (fun _ => 0)), .inr (0, [.ref 14, .int 0]), .inl (0, 10, .inl (fun _ => 0)), .inr (5, [.int 0, .int 0, .int 0, .int 0, .int 0, .int 0, .int 0, .ref 16, .ref 17, .ref 18, .ref 19, .ref 20, .ref 21, .ref 22, .ref 23]), .inl (0, 8, .inl (fun _ => 0)), .inl (0, 8, .inl (fun _ => 0)), .inl (0, 8, .inl (fun _ => 0)), .inl (0, 8, .inl (fun _ => 0)), .inl (0, 8, .inl (fun _ => 0)), .inl (0, 20, .inl (fun _ => 0)), .inl (0, 20, .inl (fun _ => 0)), .inl (2, 20, .inl (fun _ => 0)), .inl (4, 3, .inr (.inr (.inr (.inr (fun _ => none))))), .inr (5, [.int 0, .int 0, .int 0, .int 0, .int 0, .int 0, .int 0, .null, .null, .null, .null, .null, .null, .null, .null])] [.ref 25] [.inr (8, [.ref 1, .ref 3, .ref 15, .ref 24, .null, .null, .null, .null, .null, .null, .null, .null]), .inr (6, [.ref 2, .int 0]), .inl (1, 500, .inl (fun _ => 0)), .inr (2, [.ref 4, .int 0, .int (-1), .ref 1, .ref 13, .int 0, .int 0, .int 0, .int 0, .int 0]), .inr (5, [.int 0, .int 0, .int 0, .int 0, .int 0, .int 0, .int 0, .ref 5, .ref 6, .ref 7, .ref 8, .ref 9, .ref 10, .ref 11, .ref 12]), .inl (0, 8, .inl (fun _ => 0)), .inl (0, 8, .inl (fun _ => 0)), .inl (0, 8, .inl (fun _ => 0)), .inl (0, 8, .inl (fun _ => 0)), .inl (0, 8, .inl (fun _ => 0)), .inl (0, 20, .inl (fun _ => 0)), .inl (0, 20, .inl (fun _ => 0)), .inl (2, 20, .inl (fun _ => 0)), .inr (0, [.ref 14, .int 0]), .inl (0, 10, .inl (fun _ => 0)), .inr (5, [.int 0, .int 0, .int 0, .int 0, .int 0, .int 0, .int 0, .ref 16, .ref 17, .ref 18, .ref 19, .ref 20, .ref 21, .ref 22, .ref 23]), .inl (0, 8, .inl (fun _ => 0)), .inl (0, 8, .inl (fun _ => 0)), .inl (0, 8, .inl (fun _ => 0)), .inl (0, 8, .inl (fun _ => 0)), .inl (0, 8, .inl (fun _ => 0)), .inl (0, 20, .inl (fun _ => 0)), .inl (0, 20, .inl (fun _ => 0)), .inl (2, 20, .inl (fun _ => 0)), .inl (4, 3, .inr (.inr (.inr (.inr (fun _ => none))))), .inr (5, [.int 0, .int 0, .int 0, .int 0, .int 0, .int 0, .int 0, .ref 26, .ref 27, .ref 28, .ref 29, .ref 30, .ref 31, .ref 32, .ref 33]), .inl (0, 8, .inl (fun _ => 0)), .inl (0, 8, .inl (fun _ => 0)), .inl (0, 8, .inl (fun _ => 0)), .inl (0, 8, .inl (fun _ => 0)), .inl (0, 8, .inl (fun _ => 0)), .inl (0, 20, .inl (fun _ => 0)), .inl (0, 20, .inl (fun _ => 0)), .inl (2, 20, .inl (fun _ => 0))] none := by
  refine Rt_of aiX5_init (by decide) ?_
  refine Go_st rfl rfl ?_
  refine Go_st rfl rfl ?_
  refine Go_st rfl rfl ?_
  refine Go_st rfl rfl ?_
  refine Go_st rfl rfl ?_
  refine Go_st rfl rfl ?_
  refine Go_st rfl rfl ?_
  refine Go_st rfl rfl ?_
  refine Go_st rfl rfl ?_
  refine Go_st rfl rfl ?_
  refine Go_st rfl rfl ?_
  refine Go_st rfl rfl ?_
  refine Go_st rfl rfl ?_
  refine Go_st rfl rfl ?_
  refine Go_st rfl rfl ?_
  refine Go_st rfl rfl ?_
  refine Go_st rfl rfl ?_
  refine Go_st rfl rfl ?_
  refine Go_st rfl rfl ?_
  refine Go_st rfl rfl ?_
  refine Go_st rfl rfl ?_
  refine Go_st rfl rfl ?_
  refine Go_st rfl rfl ?_
  refine Go_st rfl rfl ?_
  refine Go_st rfl rfl ?_
  refine Go_st rfl rfl ?_
  refine Go_st rfl rfl ?_
  refine Go_st rfl rfl ?_
  refine Go_st rfl rfl ?_
  refine Go_st rfl rfl ?_
  refine Go_st rfl rfl ?_
  refine Go_st rfl rfl ?_
  refine Go_st rfl rfl ?_
  refine Go_st rfl rfl ?_
  exact Go_ret rfl ⟨rfl, rfl⟩
set_option maxRecDepth 20000 in
set_option maxHeartbeats 4000000 in
theorem rc_6 (d : Nat) : pm_Rt pm_P (d + 1) 52 [.inr (8, [.ref 1, .ref 3, .ref 15, .ref 24, .null, .null, .null, .null, .null, .null, .null, .null]), .inr (6, [.ref 2, .int 0]), .inl (1, 500, .inl (fun _ => 0)), .inr (2, [.ref 4, .int 0, .int (-1), .ref 1, .ref 13, .int 0, .int 0, .int 0, .int 0, .int 0]), .inr (5, [.int 0, .int 0, .int 0, .int 0, .int 0, .int 0, .int 0, .ref 5, .ref 6, .ref 7, .ref 8, .ref 9, .ref 10, .ref 11, .ref 12]), .inl (0, 8, .inl (fun _ => 0)), .inl (0, 8, .inl (fun _ => 0)), .inl (0, 8, .inl (fun _ => 0)), .inl (0, 8, .inl (fun _ => 0)), .inl (0, 8, .inl (fun _ => 0)), .inl (0, 20, .inl (fun _ => 0)), .inl (0, 20, .inl (fun _ => 0)), .inl (2, 20, .inl (fun _ => 0)), .inr (0, [.ref 14, .int 0]), .inl (0, 10, .inl (fun _ => 0)), .inr (5, [.int 0, .int 0, .int 0, .int 0, .int 0, .int 0, .int 0, .ref 16, .ref 17, .ref 18, .ref 19, .ref 20, .ref 21, .ref 22, .ref 23]), .inl (0, 8, .inl (fun _ => 0)), .inl (0, 8, .inl (fun _ => 0)), .inl (0, 8, .inl (fun _ => 0)), .inl (0, 8, .inl (fun _ => 0)), .inl (0, 8, .inl (fun _ => 0)), .inl (0, 20, .inl (fun _ => 0)), .inl (0, 20, .inl (fun _ => 0)), .inl (2, 20, .inl (fun _ => 0)), .inl (4, 3, .inr (.inr (.inr (.inr (va_up (fun _ => none) 0 (some 25)))))), .inr (5, [.int 0, .int 0, .int 0, .int 0, .int 0, .int 0, .int 0, .ref 26, .ref 27, .ref 28, .ref 29, .ref 30, .ref 31, .ref 32, .ref 33]), .inl (0, 8, .inl (fun _ => 0)), .inl (0, 8, .inl (fun _ => 0)), .inl (0, 8, .inl (fun _ => 0)), .inl (0, 8, .inl (fun _ => 0)), .inl (0, 8, .inl (fun _ => 0)), .inl (0, 20, .inl (fun _ => 0)), .inl (0, 20, .inl (fun _ => 0)), .inl (2, 20, .inl (fun _ => 0)), .inr (5, [.int 0, .int 0, .int 0, .int 0, .int 0, .int 0, .int 0, .null, .null, .null, .null, .null, .null, .null, .null])] [.ref 34] [.inr (8, [.ref 1, .ref 3, .ref 15, .ref 24, .null, .null, .null, .null, .null, .null, .null, .null]), .inr (6, [.ref 2, .int 0]), .inl (1, 500, .inl (fun _ => 0)), .inr (2, [.ref 4, .int 0, .int (-1), .ref 1, .ref 13, .int 0, .int 0, .int 0, .int 0, .int 0]), .inr (5, [.int 0, .int 0, .int 0, .int 0, .int 0, .int 0, .int 0, .ref 5, .ref 6, .ref 7, .ref 8, .ref 9, .ref 10, .ref 11, .ref 12]), .inl (0, 8, .inl (fun _ => 0)), .inl (0, 8, .inl (fun _ => 0)), .inl (0, 8, .inl (fun _ => 0)), .inl (0, 8, .inl (fun _ => 0)), .inl (0, 8, .inl (fun _ => 0)), .inl (0, 20, .inl (fun _ => 0)), .inl (0, 20, .inl (fun _ => 0)), .inl (2, 20, .inl (fun _ => 0)), .inr (0, [.ref 14, .int 0]), .inl (0, 10, .inl (fun _ => 0)), .inr (5, [.int 0, .int 0, .int 0, .int 0, .int 0, .int 0, .int 0, .ref 16, .ref 17, .ref 18, .ref 19, .ref 20, .ref 21, .ref 22, .ref 23]), .inl (0, 8, .inl (fun _ => 0)), .inl (0, 8, .inl (fun _ => 0)), .inl (0, 8, .inl (fun _ => 0)), .inl (0, 8, .inl (fun _ => 0)), .inl (0, 8, .inl (fun _ => 0)), .inl (0, 20, .inl (fun _ => 0)), .inl (0, 20, .inl (fun _ => 0)), .inl (2, 20, .inl (fun _ => 0)), .inl (4, 3, .inr (.inr (.inr (.inr (va_up (fun _ => none) 0 (some 25)))))), .inr (5, [.int 0, .int 0, .int 0, .int 0, .int 0, .int 0, .int 0, .ref 26, .ref 27, .ref 28, .ref 29, .ref 30, .ref 31, .ref 32, .ref 33]), .inl (0, 8, .inl (fun _ => 0)), .inl (0, 8, .inl (fun _ => 0)), .inl (0, 8, .inl (fun _ => 0)), .inl (0, 8, .inl (fun _ => 0)), .inl (0, 8, .inl (fun _ => 0)), .inl (0, 20, .inl (fun _ => 0)), .inl (0, 20, .inl (fun _ => 0)), .inl (2, 20, .inl (fun _ => 0)), .inr (5, [.int 0, .int 0, .int 0, .int 0, .int 0, .int 0, .int 0, .ref 35, .ref 36, .ref 37, .ref 38, .ref 39, .ref 40, .ref 41, .ref 42]), .inl (0, 8, .inl (fun _ => 0)), .inl (0, 8, .inl (fun _ => 0)), .inl (0, 8, .inl (fun _ => 0)), .inl (0, 8, .inl (fun _ => 0)), .inl (0, 8, .inl (fun _ => 0)), .inl (0, 20, .inl (fun _ => 0)), .inl (0, 20, .inl (fun _ => 0)), .inl (2, 20, .inl (fun _ => 0))] none := by
  refine Rt_of aiX5_init (by decide) ?_
  refine Go_st rfl rfl ?_
  refine Go_st rfl rfl ?_
  refine Go_st rfl rfl ?_
  refine Go_st rfl rfl ?_
  refine Go_st rfl rfl ?_
  refine Go_st rfl rfl ?_
  refine Go_st rfl rfl ?_
  refine Go_st rfl rfl ?_
  refine Go_st rfl rfl ?_
  refine Go_st rfl rfl ?_
  refine Go_st rfl rfl ?_
  refine Go_st rfl rfl ?_
  refine Go_st rfl rfl ?_
  refine Go_st rfl rfl ?_
  refine Go_st rfl rfl ?_
  refine Go_st rfl rfl ?_
  refine Go_st rfl rfl ?_
  refine Go_st rfl rfl ?_
  refine Go_st rfl rfl ?_
  refine Go_st rfl rfl ?_
  refine Go_st rfl rfl ?_
  refine Go_st rfl rfl ?_
  refine Go_st rfl rfl ?_
  refine Go_st rfl rfl ?_
  refine Go_st rfl rfl ?_
  refine Go_st rfl rfl ?_
  refine Go_st rfl rfl ?_
  refine Go_st rfl rfl ?_
  refine Go_st rfl rfl ?_
  refine Go_st rfl rfl ?_
  refine Go_st rfl rfl ?_
  refine Go_st rfl rfl ?_
  refine Go_st rfl rfl ?_
  refine Go_st rfl rfl ?_
  exact Go_ret rfl ⟨rfl, rfl⟩
set_option maxRecDepth 20000 in
set_option maxHeartbeats 4000000 in
theorem rc_7 (d : Nat) : pm_Rt pm_P (d + 1) 52 [.inr (8, [.ref 1, .ref 3, .ref 15, .ref 24, .null, .null, .null, .null, .null, .null, .null, .null]), .inr (6, [.ref 2, .int 0]), .inl (1, 500, .inl (fun _ => 0)), .inr (2, [.ref 4, .int 0, .int (-1), .ref 1, .ref 13, .int 0, .int 0, .int 0, .int 0, .int 0]), .inr (5, [.int 0, .int 0, .int 0, .int 0, .int 0, .int 0, .int 0, .ref 5, .ref 6, .ref 7, .ref 8, .ref 9, .ref 10, .ref 11, .ref 12]), .inl (0, 8, .inl (fun _ => 0)), .inl (0, 8, .inl (fun _ => 0)), .inl (0, 8, .inl (fun _ => 0)), .inl (0, 8, .inl (fun _ => 0)), .inl (0, 8, .inl (fun _ => 0)), .inl (0, 20, .inl (fun _ => 0)), .inl (0, 20, .inl (fun _ => 0)), .inl (2, 20, .inl (fun _ => 0)), .inr (0, [.ref 14, .int 0]), .inl (0, 10, .inl (fun _ => 0)), .inr (5, [.int 0, .int 0, .int 0, .int 0, .int 0, .int 0, .int 0, .ref 16, .ref 17, .ref 18, .ref 19, .ref 20, .ref 21, .ref 22, .ref 23]), .inl (0, 8, .inl (fun _ => 0)), .inl (0, 8, .inl (fun _ => 0)), .inl (0, 8, .inl (fun _ => 0)), .inl (0, 8, .inl (fun _ => 0)), .inl (0, 8, .inl (fun _ => 0)), .inl (0, 20, .inl (fun _ => 0)), .inl (0, 20, .inl (fun _ => 0)), .inl (2, 20, .inl (fun _ => 0)), .inl (4, 3, .inr (.inr (.inr (.inr (va_up (va_up (fun _ => none) 0 (some 25)) 1 (some 34)))))), .inr (5, [.int 0, .int 0, .int 0, .int 0, .int 0, .int 0, .int 0, .ref 26, .ref 27, .ref 28, .ref 29, .ref 30, .ref 31, .ref 32, .ref 33]), .inl (0, 8, .inl (fun _ => 0)), .inl (0, 8, .inl (fun _ => 0)), .inl (0, 8, .inl (fun _ => 0)), .inl (0, 8, .inl (fun _ => 0)), .inl (0, 8, .inl (fun _ => 0)), .inl (0, 20, .inl (fun _ => 0)), .inl (0, 20, .inl (fun _ => 0)), .inl (2, 20, .inl (fun _ => 0)), .inr (5, [.int 0, .int 0, .int 0, .int 0, .int 0, .int 0, .int 0, .ref 35, .ref 36, .ref 37, .ref 38, .ref 39, .ref 40, .ref 41, .ref 42]), .inl (0, 8, .inl (fun _ => 0)), .inl (0, 8, .inl (fun _ => 0)), .inl (0, 8, .inl (fun _ => 0)), .inl (0, 8, .inl (fun _ => 0)), .inl (0, 8, .inl (fun _ => 0)), .inl (0, 20, .inl (fun _ => 0)), .inl (0, 20, .inl (fun _ => 0)), .inl (2, 20, .inl (fun _ => 0)), .inr (5, [.int 0, .int 0, .int 0, .int 0, .int 0, .int 0, .int 0, .null, .null, .null, .null, .null, .null, .null, .null])] [.ref 43] [.inr (8, [.ref 1, .ref 3, .ref 15, .ref 24, .null, .null, .null, .null, .null, .null, .null, .null]), .inr (6, [.ref 2, .int 0]), .inl (1, 500, .inl (fun _ => 0)), .inr (2, [.ref 4, .int 0, .int (-1), .ref 1, .ref 13, .int 0, .int 0, .int 0, .int 0, .int 0]), .inr (5, [.int 0, .int 0, .int 0, .int 0, .int 0, .int 0, .int 0, .ref 5, .ref 6, .ref 7, .ref 8, .ref 9, .ref 10, .ref 11, .ref 12]), .inl (0, 8, .inl (fun _ => 0)), .inl (0, 8, .inl (fun _ => 0)), .inl (0, 8, .inl (fun _ => 0)), .inl (0, 8, .inl (fun _ => 0)), .inl (0, 8, .inl (fun _ => 0)), .inl (0, 20, .inl (fun _ => 0)), .inl (0, 20, .inl (fun _ => 0)), .inl (2, 20, .inl (fun _ => 0)), .inr (0, [.ref 14, .int 0]), .inl (0, 10, .inl (fun _ => 0)), .inr (5, [.int 0, .int 0, .int 0, .int 0, .int 0, .int 0, .int 0, .ref 16, .ref 17, .ref 18, .ref 19, .ref 20, .ref 21, .ref 22, .ref 23]), .inl (0, 8, .inl (fun _ => 0)), .inl (0, 8, .inl (fun _ => 0)), .inl (0, 8, .inl (fun _ => 0)), .inl (0, 8, .inl (fun _ => 0)), .inl (0, 8, .inl (fun _ => 0)), .inl (0, 20, .inl (fun _ => 0)), .inl (0, 20, .inl (fun _ => 0)), .inl (2, 20, .inl (fun _ => 0)), .inl (4, 3, .inr (.inr (.inr (.inr (va_up (va_up (fun _ => none) 0 (some 25)) 1 (some 34)))))), .inr (5, [.int 0, .int 0, .int 0, .int 0, .int 0, .int 0, .int 0, .ref 26, .ref 27, .ref 28, .ref 29, .ref 30, .ref 31, .ref 32, .ref 33]), .inl (0, 8, .inl (fun _ => 0)), .inl (0, 8, .inl (fun _ => 0)), .inl (0, 8, .inl (fun _ => 0)), .inl (0, 8, .inl (fun _ => 0)), .inl (0, 8, .inl (fun _ => 0)), .inl (0, 20, .inl (fun _ => 0)), .inl (0, 20, .inl (fun _ => 0)), .inl (2, 20, .inl (fun _ => 0)), .inr (5, [.int 0, .int 0, .int 0, .int 0, .int 0, .int 0, .int 0, .ref 35, .ref 36, .ref 37, .ref 38, .ref 39, .ref 40, .ref 41, .ref 42]), .inl (0, 8, .inl (fun _ => 0)), .inl (0, 8, .inl (fun _ => 0)), .inl (0, 8, .inl (fun _ => 0)), .inl (0, 8, .inl (fun _ => 0)), .inl (0, 8, .inl (fun _ => 0)), .inl (0, 20, .inl (fun _ => 0)), .inl (0, 20, .inl (fun _ => 0)), .inl (2, 20, .inl (fun _ => 0)), .inr (5, [.int 0, .int 0, .int 0, .int 0, .int 0, .int 0, .int 0, .ref 44, .ref 45, .ref 46, .ref 47, .ref 48, .ref 49, .ref 50, .ref 51]), .inl (0, 8, .inl (fun _ => 0)), .inl (0, 8, .inl (fun _ => 0)), .inl (0, 8, .inl (fun _ => 0)), .inl (0, 8, .inl (fun _ => 0)), .inl (0, 8, .inl (fun _ => 0)), .inl (0, 20, .inl (fun _ => 0)), .inl (0, 20, .inl (fun _ => 0)), .inl (2, 20, .inl (fun _ => 0))] none := by
  refine Rt_of aiX5_init (by decide) ?_
  refine Go_st rfl rfl ?_
  refine Go_st rfl rfl ?_
  refine Go_st rfl rfl ?_
  refine Go_st rfl rfl ?_
  refine Go_st rfl rfl ?_
  refine Go_st rfl rfl ?_
  refine Go_st rfl rfl ?_
  refine Go_st rfl rfl ?_
  refine Go_st rfl rfl ?_
  refine Go_st rfl rfl ?_
  refine Go_st rfl rfl ?_
  refine Go_st rfl rfl ?_
  refine Go_st rfl rfl ?_
  refine Go_st rfl rfl ?_
  refine Go_st rfl rfl ?_
  refine Go_st rfl rfl ?_
  refine Go_st rfl rfl ?_
  refine Go_st rfl rfl ?_
  refine Go_st rfl rfl ?_
  refine Go_st rfl rfl ?_
  refine Go_st rfl rfl ?_
  refine Go_st rfl rfl ?_
  refine Go_st rfl rfl ?_
  refine Go_st rfl rfl ?_
  refine Go_st rfl rfl ?_
  refine Go_st rfl rfl ?_
  refine Go_st rfl rfl ?_
  refine Go_st rfl rfl ?_
  refine Go_st rfl rfl ?_
  refine Go_st rfl rfl ?_
  refine Go_st rfl rfl ?_
  refine Go_st rfl rfl ?_
  refine Go_st rfl rfl ?_
  refine Go_st rfl rfl ?_
  exact Go_ret rfl ⟨rfl, rfl⟩
set_option maxRecDepth 20000 in
set_option maxHeartbeats 4000000 in
theorem rc_8 (d : Nat) : pm_Rt pm_P (d + 1) 46 [.inr (8, [.ref 1, .ref 3, .ref 15, .ref 24, .ref 52, .ref 53, .null, .null, .null, .null, .null, .null]), .inr (6, [.ref 2, .int 0]), .inl (1, 500, .inl (fun _ => 0)), .inr (2, [.ref 4, .int 0, .int (-1), .ref 1, .ref 13, .int 0, .int 0, .int 0, .int 0, .int 0]), .inr (5, [.int 0, .int 0, .int 0, .int 0, .int 0, .int 0, .int 0, .ref 5, .ref 6, .ref 7, .ref 8, .ref 9, .ref 10, .ref 11, .ref 12]), .inl (0, 8, .inl (fun _ => 0)), .inl (0, 8, .inl (fun _ => 0)), .inl (0, 8, .inl (fun _ => 0)), .inl (0, 8, .inl (fun _ => 0)), .inl (0, 8, .inl (fun _ => 0)), .inl (0, 20, .inl (fun _ => 0)), .inl (0, 20, .inl (fun _ => 0)), .inl (2, 20, .inl (fun _ => 0)), .inr (0, [.ref 14, .int 0]), .inl (0, 10, .inl (fun _ => 0)), .inr (5, [.int 0, .int 0, .int 0, .int 0, .int 0, .int 0, .int 0, .ref 16, .ref 17, .ref 18, .ref 19, .ref 20, .ref 21, .ref 22, .ref 23]), .inl (0, 8, .inl (fun _ => 0)), .inl (0, 8, .inl (fun _ => 0)), .inl (0, 8, .inl (fun _ => 0)), .inl (0, 8, .inl (fun _ => 0)), .inl (0, 8, .inl (fun _ => 0)), .inl (0, 20, .inl (fun _ => 0)), .inl (0, 20, .inl (fun _ => 0)), .inl (2, 20, .inl (fun _ => 0)), .inl (4, 3, .inr (.inr (.inr (.inr (va_up (va_up (va_up (fun _ => none) 0 (some 25)) 1 (some 34)) 2 (some 43)))))), .inr (5, [.int 0, .int 0, .int 0, .int 0, .int 0, .int 0, .int 0, .ref 26, .ref 27, .ref 28, .ref 29, .ref 30, .ref 31, .ref 32, .ref 33]), .inl (0, 8, .inl (fun _ => 0)), .inl (0, 8, .inl (fun _ => 0)), .inl (0, 8, .inl (fun _ => 0)), .inl (0, 8, .inl (fun _ => 0)), .inl (0, 8, .inl (fun _ => 0)), .inl (0, 20, .inl (fun _ => 0)), .inl (0, 20, .inl (fun _ => 0)), .inl (2, 20, .inl (fun _ => 0)), .inr (5, [.int 0, .int 0, .int 0, .int 0, .int 0, .int 0, .int 0, .ref 35, .ref 36, .ref 37, .ref 38, .ref 39, .ref 40, .ref 41, .ref 42]), .inl (0, 8, .inl (fun _ => 0)), .inl (0, 8, .inl (fun _ => 0)), .inl (0, 8, .inl (fun _ => 0)), .inl (0, 8, .inl (fun _ => 0)), .inl (0, 8, .inl (fun _ => 0)), .inl (0, 20, .inl (fun _ => 0)), .inl (0, 20, .inl (fun _ => 0)), .inl (2, 20, .inl (fun _ => 0)), .inr (5, [.int 0, .int 0, .int 0, .int 0, .int 0, .int 0, .int 0, .ref 44, .ref 45, .ref 46, .ref 47, .ref 48, .ref 49, .ref 50, .ref 51]), .inl (0, 8, .inl (fun _ => 0)), .inl (0, 8, .inl (fun _ => 0)), .inl (0, 8, .inl (fun _ => 0)), .inl (0, 8, .inl (fun _ => 0)), .inl (0, 8, .inl (fun _ => 0)), .inl (0, 20, .inl (fun _ => 0)), .inl (0, 20, .inl (fun _ => 0)), .inl (2, 20, .inl (fun _ => 0)), .inl (2, 3, .inl (fun _ => 0)), .inl (5, 4, .inr (.inr (.inr (.inr (fun _ => none))))), .inr (4, [.null, .int 0, .int 0, .int 0])] [.ref 54] [.inr (8, [.ref 1, .ref 3, .ref 15, .ref 24, .ref 52, .ref 53, .null, .null, .null, .null, .null, .null]), .inr (6, [.ref 2, .int 0]), .inl (1, 500, .inl (fun _ => 0)), .inr (2, [.ref 4, .int 0, .int (-1), .ref 1, .ref 13, .int 0, .int 0, .int 0, .int 0, .int 0]), .inr (5, [.int 0, .int 0, .int 0, .int 0, .int 0, .int 0, .int 0, .ref 5, .ref 6, .ref 7, .ref 8, .ref 9, .ref 10, .ref 11, .ref 12]), .inl (0, 8, .inl (fun _ => 0)), .inl (0, 8, .inl (fun _ => 0)), .inl (0, 8, .inl (fun _ => 0)), .inl (0, 8, .inl (fun _ => 0)), .inl (0, 8, .inl (fun _ => 0)), .inl (0, 20, .inl (fun _ => 0)), .inl (0, 20, .inl (fun _ => 0)), .inl (2, 20, .inl (fun _ => 0)), .inr (0, [.ref 14, .int 0]), .inl (0, 10, .inl (fun _ => 0)), .inr (5, [.int 0, .int 0, .int 0, .int 0, .int 0, .int 0, .int 0, .ref 16, .ref 17, .ref 18, .ref 19, .ref 20, .ref 21, .ref 22, .ref 23]), .inl (0, 8, .inl (fun _ => 0)), .inl (0, 8, .inl (fun _ => 0)), .inl (0, 8, .inl (fun _ => 0)), .inl (0, 8, .inl (fun _ => 0)), .inl (0, 8, .inl (fun _ => 0)), .inl (0, 20, .inl (fun _ => 0)), .inl (0, 20, .inl (fun _ => 0)), .inl (2, 20, .inl (fun _ => 0)), .inl (4, 3, .inr (.inr (.inr (.inr (va_up (va_up (va_up (fun _ => none) 0 (some 25)) 1 (some 34)) 2 (some 43)))))), .inr (5, [.int 0, .int 0, .int 0, .int 0, .int 0, .int 0, .int 0, .ref 26, .ref 27, .ref 28, .ref 29, .ref 30, .ref 31, .ref 32, .ref 33]), .inl (0, 8, .inl (fun _ => 0)), .inl (0, 8, .inl (fun _ => 0)), .inl (0, 8, .inl (fun _ => 0)), .inl (0, 8, .inl (fun _ => 0)), .inl (0, 8, .inl (fun _ => 0)), .inl (0, 20, .inl (fun _ => 0)), .inl (0, 20, .inl (fun _ => 0)), .inl (2, 20, .inl (fun _ => 0)), .inr (5, [.int 0, .int 0, .int 0, .int 0, .int 0, .int 0, .int 0, .ref 35, .ref 36, .ref 37, .ref 38, .ref 39, .ref 40, .ref 41, .ref 42]), .inl (0, 8, .inl (fun _ => 0)), .inl (0, 8, .inl (fun _ => 0)), .inl (0, 8, .inl (fun _ => 0)), .inl (0, 8, .inl (fun _ => 0)), .inl (0, 8, .inl (fun _ => 0)), .inl (0, 20, .inl (fun _ => 0)), .inl (0, 20, .inl (fun _ => 0)), .inl (2, 20, .inl (fun _ => 0)), .inr (5, [.int 0, .int 0, .int 0, .int 0, .int 0, .int 0, .int 0, .ref 44, .ref 45, .ref 46, .ref 47, .ref 48, .ref 49, .ref 50, .ref 51]), .inl (0, 8, .inl (fun _ => 0)), .inl (0, 8, .inl (fun _ => 0)), .inl (0, 8, .inl (fun _ => 0)), .inl (0, 8, .inl (fun _ => 0)), .inl (0, 8, .inl (fun _ => 0)), .inl (0, 20, .inl (fun _ => 0)), .inl (0, 20, .inl (fun _ => 0)), .inl (2, 20, .inl (fun _ => 0)), .inl (2, 3, .inl (fun _ => 0)), .inl (5, 4, .inr (.inr (.inr (.inr (fun _ => none))))), .inr (4, [.ref 55, .int 0, .int 0, .int 0]), .inl (3, 60, .inr (.inl (fun _ => 0)))] none := by
  refine Rt_of aiX4_init (by decide) ?_
  refine Go_st rfl rfl ?_
  refine Go_st rfl rfl ?_
  refine Go_st rfl rfl ?_
  refine Go_st rfl rfl ?_
  refine Go_st rfl rfl ?_
  refine Go_st rfl rfl ?_
  exact Go_ret rfl ⟨rfl, rfl⟩
set_option maxRecDepth 20000 in
set_option maxHeartbeats 4000000 in
theorem rc_9 (d : Nat) : pm_Rt pm_P (d + 1) 46 [.inr (8, [.ref 1, .ref 3, .ref 15, .ref 24, .ref 52, .ref 53, .null, .null, .null, .null, .null, .null]), .inr (6, [.ref 2, .int 0]), .inl (1, 500, .inl (fun _ => 0)), .inr (2, [.ref 4, .int 0, .int (-1), .ref 1, .ref 13, .int 0, .int 0, .int 0, .int 0, .int 0]), .inr (5, [.int 0, .int 0, .int 0, .int 0, .int 0, .int 0, .int 0, .ref 5, .ref 6, .ref 7, .ref 8, .ref 9, .ref 10, .ref 11, .ref 12]), .inl (0, 8, .inl (fun _ => 0)), .inl (0, 8, .inl (fun _ => 0)), .inl (0, 8, .inl (fun _ => 0)), .inl (0, 8, .inl (fun _ => 0)), .inl (0, 8, .inl (fun _ => 0)), .inl (0, 20, .inl (fun _ => 0)), .inl (0, 20, .inl (fun _ => 0)), .inl (2, 20, .inl (fun _ => 0)), .inr (0, [.ref 14, .int 0]), .inl (0, 10, .inl (fun _ => 0)), .inr (5, [.int 0, .int 0, .int 0, .int 0, .int 0, .int 0, .int 0, .ref 16, .ref 17, .ref 18, .ref 19, .ref 20, .ref 21, .ref 22, .ref 23]), .inl (0, 8, .inl (fun _ => 0)), .inl (0, 8, .inl (fun _ => 0)), .inl (0, 8, .inl (fun _ => 0)), .inl (0, 8, .inl (fun _ => 0)), .inl (0, 8, .inl (fun _ => 0)), .inl (0, 20, .inl (fun _ => 0)), .inl (0, 20, .inl (fun _ => 0)), .inl (2, 20, .inl (fun _ => 0)), .inl (4, 3, .inr (.inr (.inr (.inr (va_up (va_up (va_up (fun _ => none) 0 (some 25)) 1 (some 34)) 2 (some 43)))))), .inr (5, [.int 0, .int 0, .int 0, .int 0, .int 0, .int 0, .int 0, .ref 26, .ref 27, .ref 28, .ref 29, .ref 30, .ref 31, .ref 32, .ref 33]), .inl (0, 8, .inl (fun _ => 0)), .inl (0, 8, .inl (fun _ => 0)), .inl (0, 8, .inl (fun _ => 0)), .inl (0, 8, .inl (fun _ => 0)), .inl (0, 8, .inl (fun _ => 0)), .inl (0, 20, .inl (fun _ => 0)), .inl (0, 20, .inl (fun _ => 0)), .inl (2, 20, .inl (fun _ => 0)), .inr (5, [.int 0, .int 0, .int 0, .int 0, .int 0, .int 0, .int 0, .ref 35, .ref 36, .ref 37, .ref 38, .ref 39, .ref 40, .ref 41, .ref 42]), .inl (0, 8, .inl (fun _ => 0)), .inl (0, 8, .inl (fun _ => 0)), .inl (0, 8, .inl (fun _ => 0)), .inl (0, 8, .inl (fun _ => 0)), .inl (0, 8, .inl (fun _ => 0)), .inl (0, 20, .inl (fun _ => 0)), .inl (0, 20, .inl (fun _ => 0)), .inl (2, 20, .inl (fun _ => 0)), .inr (5, [.int 0, .int 0, .int 0, .int 0, .int 0, .int 0, .int 0, .ref 44, .ref 45, .ref 46, .ref 47, .ref 48, .ref 49, .ref 50, .ref 51]), .inl (0, 8, .inl (fun _ => 0)), .inl (0, 8, .inl (fun _ => 0)), .inl (0, 8, .inl (fun _ => 0)), .inl (0, 8, .inl (fun _ => 0)), .inl (0, 8, .inl (fun _ => 0)), .inl (0, 20, .inl (fun _ => 0)), .inl (0, 20, .inl (fun _ => 0)), .inl (2, 20, .inl (fun _ => 0)), .inl (2, 3, .inl (fun _ => 0)), .inl (5, 4, .inr (.inr (.inr (.inr (va_up (fun _ => none) 0 (some 54)))))), .inr (4, [.ref 55, .int 0, .int 0, .int 0]), .inl (3, 60, .inr (.inl (fun _ => 0))), .inr (4, [.null, .int 0, .int 0, .int 0])] [.ref 56] [.inr (8, [.ref 1, .ref 3, .ref 15, .ref 24, .ref 52, .ref 53, .null, .null, .null, .null, .null, .null]), .inr (6, [.ref 2, .int 0]), .inl (1, 500, .inl (fun _ => 0)), .inr (2, [.ref 4, .int 0, .int (-1), .ref 1, .ref 13, .int 0, .int 0, .int 0, .int 0, .int 0]), .inr (5, [.int 0, .int 0, .int 0, .int 0, .int 0, .int 0, .int 0, .ref 5, .ref 6, .ref 7, .ref 8, .ref 9, .ref 10, .ref 11, .ref 12]), .inl (0, 8, .inl (fun _ => 0)), .inl (0, 8, .inl (fun _ => 0)), .inl (0, 8, .inl (fun _ => 0)), .inl (0, 8, .inl (fun _ => 0)), .inl (0, 8, .inl (fun _ => 0)), .inl (0, 20, .inl (fun _ => 0)), .inl (0, 20, .inl (fun _ => 0)), .inl (2, 20, .inl (fun _ => 0)), .inr (0, [.ref 14, .int 0]), .inl (0, 10, .inl (fun _ => 0)), .inr (5, [.int 0, .int 0, .int 0, .int 0, .int 0, .int 0, .int 0, .ref 16, .ref 17, .ref 18, .ref 19, .ref 20, .ref 21, .ref 22, .ref 23]), .inl (0, 8, .inl (fun _ => 0)), .inl (0, 8, .inl (fun _ => 0)), .inl (0, 8, .inl (fun _ => 0)), .inl (0, 8, .inl (fun _ => 0)), .inl (0, 8, .inl (fun _ => 0)), .inl (0, 20, .inl (fun _ => 0)), .inl (0, 20, .inl (fun _ => 0)), .inl (2, 20, .inl (fun _ => 0)), .inl (4, 3, .inr (.inr (.inr (.inr (va_up (va_up (va_up (fun _ => none) 0 (some 25)) 1 (some 34)) 2 (some 43)))))), .inr (5, [.int 0, .int 0, .int 0, .int 0, .int 0, .int 0, .int 0, .ref 26, .ref 27, .ref 28, .ref 29, .ref 30, .ref 31, .ref 32, .ref 33]), .inl (0, 8, .inl (fun _ => 0)), .inl (0, 8, .inl (fun _ => 0)), .inl (0, 8, .inl (fun _ => 0)), .inl (0, 8, .inl (fun _ => 0)), .inl (0, 8, .inl (fun _ => 0)), .inl (0, 20, .inl (fun _ => 0)), .inl (0, 20, .inl (fun _ => 0)), .inl (2, 20, .inl (fun _ => 0)), .inr (5, [.int 0, .int 0, .int 0, .int 0, .int 0, .int 0, .int 0, .ref 35, .ref 36, .ref 37, .ref 38, .ref 39, .ref 40, .ref 41, .ref 42]), .inl (0, 8, .inl (fun _ => 0)), .inl (0, 8, .inl (fun _ => 0)), .inl (0, 8, .inl (fun _ => 0)), .inl (0, 8, .inl (fun _ => 0)), .inl (0, 8, .inl (fun _ => 0)), .inl (0, 20, .inl (fun _ => 0)), .inl (0, 20, .inl (fun _ => 0)), .inl (2, 20, .inl (fun _ => 0)), .inr (5, [.int 0, .int 0, .int 0, .int 0, .int 0, .int 0, .int 0, .ref 44, .ref 45, .ref 46, .ref 47, .ref 48, .ref 49, .ref 50, .ref 51]), .inl (0, 8, .inl (fun _ => 0)), .inl (0, 8, .inl (fun _ => 0)), .inl (0, 8, .inl (fun _ => 0)), .inl (0, 8, .inl (fun _ => 0)), .inl (0, 8, .inl (fun _ => 0)), .inl (0, 20, .inl (fun _ => 0)), .inl (0, 20, .inl (fun _ => 0)), .inl (2, 20, .inl (fun _ => 0)), .inl (2, 3, .inl (fun _ => 0)), .inl (5, 4, .inr (.inr (.inr (.inr (va_up (fun _ => none) 0 (some 54)))))), .inr (4, [.ref 55, .int 0, .int 0, .int 0]), .inl (3, 60, .inr (.inl (fun _ => 0))), .inr (4, [.ref 57, .int 0, .int 0, .int 0]), .inl (3, 60, .inr (.inl (fun _ => 0)))] none := by
  refine Rt_of aiX4_init (by decide) ?_
  refine Go_st rfl rfl ?_
  refine Go_st rfl rfl ?_
  refine Go_st rfl rfl ?_
  refine Go_st rfl rfl ?_
  refine Go_st rfl rfl ?_
  refine Go_st rfl rfl ?_
  exact Go_ret rfl ⟨rfl, rfl⟩
set_option maxRecDepth 20000 in
set_option maxHeartbeats 4000000 in
theorem rc_10 (d : Nat) : pm_Rt pm_P (d + 1) 46 [.inr (8, [.ref 1, .ref 3, .ref 15, .ref 24, .ref 52, .ref 53, .null, .null, .null, .null, .null, .null]), .inr (6, [.ref 2, .int 0]), .inl (1, 500, .inl (fun _ => 0)), .inr (2, [.ref 4, .int 0, .int (-1), .ref 1, .ref 13, .int 0, .int 0, .int 0, .int 0, .int 0]), .inr (5, [.int 0, .int 0, .int 0, .int 0, .int 0, .int 0, .int 0, .ref 5, .ref 6, .ref 7, .ref 8, .ref 9, .ref 10, .ref 11, .ref 12]), .inl (0, 8, .inl (fun _ => 0)), .inl (0, 8, .inl (fun _ => 0)), .inl (0, 8, .inl (fun _ => 0)), .inl (0, 8, .inl (fun _ => 0)), .inl (0, 8, .inl (fun _ => 0)), .inl (0, 20, .inl (fun _ => 0)), .inl (0, 20, .inl (fun _ => 0)), .inl (2, 20, .inl (fun _ => 0)), .inr (0, [.ref 14, .int 0]), .inl (0, 10, .inl (fun _ => 0)), .inr (5, [.int 0, .int 0, .int 0, .int 0, .int 0, .int 0, .int 0, .ref 16, .ref 17, .ref 18, .ref 19, .ref 20, .ref 21, .ref 22, .ref 23]), .inl (0, 8, .inl (fun _ => 0)), .inl (0, 8, .inl (fun _ => 0)), .inl (0, 8, .inl (fun _ => 0)), .inl (0, 8, .inl (fun _ => 0)), .inl (0, 8, .inl (fun _ => 0)), .inl (0, 20, .inl (fun _ => 0)), .inl (0, 20, .inl (fun _ => 0)), .inl (2, 20, .inl (fun _ => 0)), .inl (4, 3, .inr (.inr (.inr (.inr (va_up (va_up (va_up (fun _ => none) 0 (some 25)) 1 (some 34)) 2 (some 43)))))), .inr (5, [.int 0, .int 0, .int 0, .int 0, .int 0, .int 0, .int 0, .ref 26, .ref 27, .ref 28, .ref 29, .ref 30, .ref 31, .ref 32, .ref 33]), .inl (0, 8, .inl (fun _ => 0)), .inl (0, 8, .inl (fun _ => 0)), .inl (0, 8, .inl (fun _ => 0)), .inl (0, 8, .inl (fun _ => 0)), .inl (0, 8, .inl (fun _ => 0)), .inl (0, 20, .inl (fun _ => 0)), .inl (0, 20, .inl (fun _ => 0)), .inl (2, 20, .inl (fun _ => 0)), .inr (5, [.int 0, .int 0, .int 0, .int 0, .int 0, .int 0, .int 0, .ref 35, .ref 36, .ref 37, .ref 38, .ref 39, .ref 40, .ref 41, .ref 42]), .inl (0, 8, .inl (fun _ => 0)), .inl (0, 8, .inl (fun _ => 0)), .inl (0, 8, .inl (fun _ => 0)), .inl (0, 8, .inl (fun _ => 0)), .inl (0, 8, .inl (fun _ => 0)), .inl (0, 20, .inl (fun _ => 0)), .inl (0, 20, .inl (fun _ => 0)), .inl (2, 20, .inl (fun _ => 0)), .inr (5, [.int 0, .int 0, .int 0, .int 0, .int 0, .int 0, .int 0, .ref 44, .ref 45, .ref 46, .ref 47, .ref 48, .ref 49, .ref 50, .ref 51]), .inl (0, 8, .inl (fun _ => 0)), .inl (0, 8, .inl (fun _ => 0)), .inl (0, 8, .inl (fun _ => 0)), .inl (0, 8, .inl (fun _ => 0)), .inl (0, 8, .inl (fun _ => 0)), .inl (0, 20, .inl (fun _ => 0)), .inl (0, 20, .inl (fun _ => 0)), .inl (2, 20, .inl (fun _ => 0)), .inl (2, 3, .inl (fun _ => 0)), .inl (5, 4, .inr (.inr (.inr (.inr (va_up (va_up (fun _ => none) 0 (some 54)) 1 (some 56)))))), .inr (4, [.ref 55, .int 0, .int 0, .int 0]), .inl (3, 60, .inr (.inl (fun _ => 0))), .inr (4, [.ref 57, .int 0, .int 0, .int 0]), .inl (3, 60, .inr (.inl (fun _ => 0))), .inr (4, [.null, .int 0, .int 0, .int 0])] [.ref 58] [.inr (8, [.ref 1, .ref 3, .ref 15, .ref 24, .ref 52, .ref 53, .null, .null, .null, .null, .null, .null]), .inr (6, [.ref 2, .int 0]), .inl (1, 500, .inl (fun _ => 0)), .inr (2, [.ref 4, .int 0, .int (-1), .ref 1, .ref 13, .int 0, .int 0, .int 0, .int 0, .int 0]), .inr (5, [.int 0, .int 0, .int 0, .int 0, .int 0, .int 0, .int 0, .ref 5, .ref 6, .ref 7, .ref 8, .ref 9, .ref 10, .ref 11, .ref 12]), .inl (0, 8, .inl (fun _ => 0)), .inl (0, 8, .inl (fun _ => 0)), .inl (0, 8, .inl (fun _ => 0)), .inl (0, 8, .inl (fun _ => 0)), .inl (0, 8, .inl (fun _ => 0)), .inl (0, 20, .inl (fun _ => 0)), .inl (0, 20, .inl (fun _ => 0)), .inl (2, 20, .inl (fun _ => 0)), .inr (0, [.ref 14, .int 0]), .inl (0, 10, .inl (fun _ => 0)), .inr (5, [.int 0, .int 0, .int 0, .int 0, .int 0, .int 0, .int 0, .ref 16, .ref 17, .ref 18, .ref 19, .ref 20, .ref 21, .ref 22, .ref 23]), .inl (0, 8, .inl (fun _ => 0)), .inl (0, 8, .inl (fun _ => 0)), .inl (0, 8, .inl (fun _ => 0)), .inl (0, 8, .inl (fun _ => 0)), .inl (0, 8, .inl (fun _ => 0)), .inl (0, 20, .inl (fun _ => 0)), .inl (0, 20, .inl (fun _ => 0)), .inl (2, 20, .inl (fun _ => 0)), .inl (4, 3, .inr (.inr (.inr (.inr (va_up (va_up (va_up (fun _ => none) 0 (some 25)) 1 (some 34)) 2 (some 43)))))), .inr (5, [.int 0, .int 0, .int 0, .int 0, .int 0, .int 0, .int 0, .ref 26, .ref 27, .ref 28, .ref 29, .ref 30, .ref 31, .ref 32, .ref 33]), .inl (0, 8, .inl (fun _ => 0)), .inl (0, 8, .inl (fun _ => 0)), .inl (0, 8, .inl (fun _ => 0)), .inl (0, 8, .inl (fun _ => 0)), .inl (0, 8, .inl (fun _ => 0)), .inl (0, 20, .inl (fun _ => 0)), .inl (0, 20, .inl (fun _ => 0)), .inl (2, 20, .inl (fun _ => 0)), .inr (5, [.int 0, .int 0, .int 0, .int 0, .int 0, .int 0, .int 0, .ref 35, .ref 36, .ref 37, .ref 38, .ref 39, .ref 40, .ref 41, .ref 42]), .inl (0, 8, .inl (fun _ => 0)), .inl (0, 8, .inl (fun _ => 0)), .inl (0, 8, .inl (fun _ => 0)), .inl (0, 8, .inl (fun _ => 0)), .inl (0, 8, .inl (fun _ => 0)), .inl (0, 20, .inl (fun _ => 0)), .inl (0, 20, .inl (fun _ => 0)), .inl (2, 20, .inl (fun _ => 0)), .inr (5, [.int 0, .int 0, .int 0, .int 0, .int 0, .int 0, .int 0, .ref 44, .ref 45, .ref 46, .ref 47, .ref 48, .ref 49, .ref 50, .ref 51]), .inl (0, 8, .inl (fun _ => 0)), .inl (0, 8, .inl (fun _ => 0)), .inl (0, 8, .inl (fun _ => 0)), .inl (0, 8, .inl (fun _ => 0)), .inl (0, 8, .inl (fun _ => 0)), .inl (0, 20, .inl (fun _ => 0)), .inl (0, 20, .inl (fun _ => 0)), .inl (2, 20, .inl (fun _ => 0)), .inl (2, 3, .inl (fun _ => 0)), .inl (5, 4, .inr (.inr (.inr (.inr (va_up (va_up (fun _ => none) 0 (some 54)) 1 (some 56)))))), .inr (4, [.ref 55, .int 0, .int 0, .int 0]), .inl (3, 60, .inr (.inl (fun _ => 0))), .inr (4, [.ref 57, .int 0, .int 0, .int 0]), .inl (3, 60, .inr (.inl (fun _ => 0))), .inr (4, [.ref 59, .int 0, .int 0, .int 0]), .inl (3, 60, .inr (.inl (fun _ => 0)))] none := by
  refine Rt_of aiX4_init (by decide) ?_
  refine Go_st rfl rfl ?_
  refine Go_st rfl rfl ?_
  refine Go_st rfl rfl ?_
  refine Go_st rfl rfl ?_
  refine Go_st rfl rfl ?_
  refine Go_st rfl rfl ?_
  exact Go_ret rfl ⟨rfl, rfl⟩
set_option maxRecDepth 20000 in
set_option maxHeartbeats 4000000 in
theorem rc_11 (d : Nat) : pm_Rt pm_P (d + 1) 46 [.inr (8, [.ref 1, .ref 3, .ref 15, .ref 24, .ref 52, .ref 53, .null, .null, .null, .null, .null, .null]), .inr (6, [.ref 2, .int 0]), .inl (1, 500, .inl (fun _ => 0)), .inr (2, [.ref 4, .int 0, .int (-1), .ref 1, .ref 13, .int 0, .int 0, .int 0, .int 0, .int 0]), .inr (5, [.int 0, .int 0, .int 0, .int 0, .int 0, .int 0, .int 0, .ref 5, .ref 6, .ref 7, .ref 8, .ref 9, .ref 10, .ref 11, .ref 12]), .inl (0, 8, .inl (fun _ => 0)), .inl (0, 8, .inl (fun _ => 0)), .inl (0, 8, .inl (fun _ => 0)), .inl (0, 8, .inl (fun _ => 0)), .inl (0, 8, .inl (fun _ => 0)), .inl (0, 20, .inl (fun _ => 0)), .inl (0, 20, .inl (fun _ => 0)), .inl (2, 20, .inl (fun _ => 0)), .inr (0, [.ref 14, .int 0]), .inl (0, 10, .inl (fun _ => 0)), .inr (5, [.int 0, .int 0, .int 0, .int 0, .int 0, .int 0, .int 0, .ref 16, .ref 17, .ref 18, .ref 19, .ref 20, .ref 21, .ref 22, .ref 23]), .inl (0, 8, .inl (fun _ => 0)), .inl (0, 8, .inl (fun _ => 0)), .inl (0, 8, .inl (fun _ => 0)), .inl (0, 8, .inl (fun _ => 0)), .inl (0, 8, .inl (fun _ => 0)), .inl (0, 20, .inl (fun _ => 0)), .inl (0, 20, .inl (fun _ => 0)), .inl (2, 20, .inl (fun _ => 0)), .inl (4, 3, .inr (.inr (.inr (.inr (va_up (va_up (va_up (fun _ => none) 0 (some 25)) 1 (some 34)) 2 (some 43)))))), .inr (5, [.int 0, .int 0, .int 0, .int 0, .int 0, .int 0, .int 0, .ref 26, .ref 27, .ref 28, .ref 29, .ref 30, .ref 31, .ref 32, .ref 33]), .inl (0, 8, .inl (fun _ => 0)), .inl (0, 8, .inl (fun _ => 0)), .inl (0, 8, .inl (fun _ => 0)), .inl (0, 8, .inl (fun _ => 0)), .inl (0, 8, .inl (fun _ => 0)), .inl (0, 20, .inl (fun _ => 0)), .inl (0, 20, .inl (fun _ => 0)), .inl (2, 20, .inl (fun _ => 0)), .inr (5, [.int 0, .int 0, .int 0, .int 0, .int 0, .int 0, .int 0, .ref 35, .ref 36, .ref 37, .ref 38, .ref 39, .ref 40, .ref 41, .ref 42]), .inl (0, 8, .inl (fun _ => 0)), .inl (0, 8, .inl (fun _ => 0)), .inl (0, 8, .inl (fun _ => 0)), .inl (0, 8, .inl (fun _ => 0)), .inl (0, 8, .inl (fun _ => 0)), .inl (0, 20, .inl (fun _ => 0)), .inl (0, 20, .inl (fun _ => 0)), .inl (2, 20, .inl (fun _ => 0)), .inr (5, [.int 0, .int 0, .int 0, .int 0, .int 0, .int 0, .int 0, .ref 44, .ref 45, .ref 46, .ref 47, .ref 48, .ref 49, .ref 50, .ref 51]), .inl (0, 8, .inl (fun _ => 0)), .inl (0, 8, .inl (fun _ => 0)), .inl (0, 8, .inl (fun _ => 0)), .inl (0, 8, .inl (fun _ => 0)), .inl (0, 8, .inl (fun _ => 0)), .inl (0, 20, .inl (fun _ => 0)), .inl (0, 20, .inl (fun _ => 0)), .inl (2, 20, .inl (fun _ => 0)), .inl (2, 3, .inl (fun _ => 0)), .inl (5, 4, .inr (.inr (.inr (.inr (va_up (va_up (va_up (fun _ => none) 0 (some 54)) 1 (some 56)) 2 (some 58)))))), .inr (4, [.ref 55, .int 0, .int 0, .int 0]), .inl (3, 60, .inr (.inl (fun _ => 0))), .inr (4, [.ref 57, .int 0, .int 0, .int 0]), .inl (3, 60, .inr (.inl (fun _ => 0))), .inr (4, [.ref 59, .int 0, .int 0, .int 0]), .inl (3, 60, .inr (.inl (fun _ => 0))), .inr (4, [.null, .int 0, .int 0, .int 0])] [.ref 60] [.inr (8, [.ref 1, .ref 3, .ref 15, .ref 24, .ref 52, .ref 53, .null, .null, .null, .null, .null, .null]), .inr (6, [.ref 2, .int 0]), .inl (1, 500, .inl (fun _ => 0)), .inr (2, [.ref 4, .int 0, .int (-1), .ref 1, .ref 13, .int 0, .int 0, .int 0, .int 0, .int 0]), .inr (5, [.int 0, .int 0, .int 0, .int 0, .int 0, .int 0, .int 0, .ref 5, .ref 6, .ref 7, .ref 8, .ref 9, .ref 10, .ref 11, .ref 12]), .inl (0, 8, .inl (fun _ => 0)), .inl (0, 8, .inl (fun _ => 0)), .inl (0, 8, .inl (fun _ => 0)), .inl (0, 8, .inl (fun _ => 0)), .inl (0, 8, .inl (fun _ => 0)), .inl (0, 20, .inl (fun _ => 0)), .inl (0, 20, .inl (fun _ => 0)), .inl (2, 20, .inl (fun _ => 0)), .inr (0, [.ref 14, .int 0]), .inl (0, 10, .inl (fun _ => 0)), .inr (5, [.int 0, .int 0, .int 0, .int 0, .int 0, .int 0, .int 0, .ref 16, .ref 17, .ref 18, .ref 19, .ref 20, .ref 21, .ref 22, .ref 23]), .inl (0, 8, .inl (fun _ => 0)), .inl (0, 8, .inl (fun _ => 0)), .inl (0, 8, .inl (fun _ => 0)), .inl (0, 8, .inl (fun _ => 0)), .inl (0, 8, .inl (fun _ => 0)), .inl (0, 20, .inl (fun _ => 0)), .inl (0, 20, .inl (fun _ => 0)), .inl (2, 20, .inl (fun _ => 0)), .inl (4, 3, .inr (.inr (.inr (.inr (va_up (va_up (va_up (fun _ => none) 0 (some 25)) 1 (some 34)) 2 (some 43)))))), .inr (5, [.int 0, .int 0, .int 0, .int 0, .int 0, .int 0, .int 0, .ref 26, .ref 27, .ref 28, .ref 29, .ref 30, .ref 31, .ref 32, .ref 33]), .inl (0, 8, .inl (fun _ => 0)), .inl (0, 8, .inl (fun _ => 0)), .inl (0, 8, .inl (fun _ => 0)), .inl (0, 8, .inl (fun _ => 0)), .inl (0, 8, .inl (fun _ => 0)), .inl (0, 20, .inl (fun _ => 0)), .inl (0, 20, .inl (fun _ => 0)), .inl (2, 20, .inl (fun _ => 0)), .inr (5, [.int 0, .int 0, .int 0, .int 0, .int 0, .int 0, .int 0, .ref 35, .ref 36, .ref 37, .ref 38, .ref 39, .ref 40, .ref 41, .ref 42]), .inl (0, 8, .inl (fun _ => 0)), .inl (0, 8, .inl (fun _ => 0)), .inl (0, 8, .inl (fun _ => 0)), .inl (0, 8, .inl (fun _ => 0)), .inl (0, 8, .inl (fun _ => 0)), .inl (0, 20, .inl (fun _ => 0)), .inl (0, 20, .inl (fun _ => 0)), .inl (2, 20, .inl (fun _ => 0)), .inr (5, [.int 0, .int 0, .int 0, .int 0, .int 0, .int 0, .int 0, .ref 44, .ref 45, .ref 46, .ref 47, .ref 48, .ref 49, .ref 50, .ref 51]), .inl (0, 8, .inl (fun _ => 0)), .inl (0, 8, .inl (fun _ => 0)), .inl (0, 8, .inl (fun _ => 0)), .inl (0, 8, .inl (fun _ => 0)), .inl (0, 8, .inl (fun _ => 0)), .inl (0, 20, .inl (fun _ => 0)), .inl (0, 20, .inl (fun _ => 0)), .inl (2, 20, .inl (fun _ => 0)), .inl (2, 3, .inl (fun _ => 0)), .inl (5, 4, .inr (.inr (.inr (.inr (va_up (va_up (va_up (fun _ => none) 0 (some 54)) 1 (some 56)) 2 (some 58)))))), .inr (4, [.ref 55, .int 0, .int 0, .int 0]), .inl (3, 60, .inr (.inl (fun _ => 0))), .inr (4, [.ref 57, .int 0, .int 0, .int 0]), .inl (3, 60, .inr (.inl (fun _ => 0))), .inr (4, [.ref 59, .int 0, .int 0, .int 0]), .inl (3, 60, .inr (.inl (fun _ => 0))), .inr (4, [.ref 61, .int 0, .int 0, .int 0]), .inl (3, 60, .inr (.inl (fun _ => 0)))] none := by
  refine Rt_of aiX4_init (by decide) ?_
  refine Go_st rfl rfl ?_
  refine Go_st rfl rfl ?_
  refine Go_st rfl rfl ?_
  refine Go_st rfl rfl ?_
  refine Go_st rfl rfl ?_
  refine Go_st rfl rfl ?_
  exact Go_ret rfl ⟨rfl, rfl⟩
set_option maxRecDepth 20000 in
set_option maxHeartbeats 4000000 in
theorem rc_12 (d : Nat) : pm_Rt pm_P (d + 1) 22 [.inr (8, [.ref 1, .ref 3, .ref 15, .ref 24, .ref 52, .ref 53, .null, .null, .null, .null, .null, .null]), .inr (6, [.ref 2, .int 0]), .inl (1, 500, .inl (fun _ => 0)), .inr (2, [.ref 4, .int 0, .int (-1), .ref 1, .ref 13, .int 0, .int 0, .int 0, .int 0, .int 0]), .inr (5, [.int 0, .int 0, .int 0, .int 0, .int 0, .int 0, .int 0, .ref 5, .ref 6, .ref 7, .ref 8, .ref 9, .ref 10, .ref 11, .ref 12]), .inl (0, 8, .inl (fun _ => 0)), .inl (0, 8, .inl (fun _ => 0)), .inl (0, 8, .inl (fun _ => 0)), .inl (0, 8, .inl (fun _ => 0)), .inl (0, 8, .inl (fun _ => 0)), .inl (0, 20, .inl (fun _ => 0)), .inl (0, 20, .inl (fun _ => 0)), .inl (2, 20, .inl (fun _ => 0)), .inr (0, [.ref 14, .int 0]), .inl (0, 10, .inl (fun _ => 0)), .inr (5, [.int 0, .int 0, .int 0, .int 0, .int 0, .int 0, .int 0, .ref 16, .ref 17, .ref 18, .ref 19, .ref 20, .ref 21, .ref 22, .ref 23]), .inl (0, 8, .inl (fun _ => 0)), .inl (0, 8, .inl (fun _ => 0)), .inl (0, 8, .inl (fun _ => 0)), .inl (0, 8, .inl (fun _ => 0)), .inl (0, 8, .inl (fun _ => 0)), .inl (0, 20, .inl (fun _ => 0)), .inl (0, 20, .inl (fun _ => 0)), .inl (2, 20, .inl (fun _ => 0)), .inl (4, 3, .inr (.inr (.inr (.inr (va_up (va_up (va_up (fun _ => none) 0 (some 25)) 1 (some 34)) 2 (some 43)))))), .inr (5, [.int 0, .int 0, .int 0, .int 0, .int 0, .int 0, .int 0, .ref 26, .ref 27, .ref 28, .ref 29, .ref 30, .ref 31, .ref 32, .ref 33]), .inl (0, 8, .inl (fun _ => 0)), .inl (0, 8, .inl (fun _ => 0)), .inl (0, 8, .inl (fun _ => 0)), .inl (0, 8, .inl (fun _ => 0)), .inl (0, 8, .inl (fun _ => 0)), .inl (0, 20, .inl (fun _ => 0)), .inl (0, 20, .inl (fun _ => 0)), .inl (2, 20, .inl (fun _ => 0)), .inr (5, [.int 0, .int 0, .int 0, .int 0, .int 0, .int 0, .int 0, .ref 35, .ref 36, .ref 37, .ref 38, .ref 39, .ref 40, .ref 41, .ref 42]), .inl (0, 8, .inl (fun _ => 0)), .inl (0, 8, .inl (fun _ => 0)), .inl (0, 8, .inl (fun _ => 0)), .inl (0, 8, .inl (fun _ => 0)), .inl (0, 8, .inl (fun _ => 0)), .inl (0, 20, .inl (fun _ => 0)), .inl (0, 20, .inl (fun _ => 0)), .inl (2, 20, .inl (fun _ => 0)), .inr (5, [.int 0, .int 0, .int 0, .int 0, .int 0, .int 0, .int 0, .ref 44, .ref 45, .ref 46, .ref 47, .ref 48, .ref 49, .ref 50, .ref 51]), .inl (0, 8, .inl (fun _ => 0)), .inl (0, 8, .inl (fun _ => 0)), .inl (0, 8, .inl (fun _ => 0)), .inl (0, 8, .inl (fun _ => 0)), .inl (0, 8, .inl (fun _ => 0)), .inl (0, 20, .inl (fun _ => 0)), .inl (0, 20, .inl (fun _ => 0)), .inl (2, 20, .inl (fun _ => 0)), .inl (2, 3, .inl (fun _ => 0)), .inl (5, 4, .inr (.inr (.inr (.inr (va_up (va_up (va_up (va_up (fun _ => none) 0 (some 54)) 1 (some 56)) 2 (some 58)) 3 (some 60)))))), .inr (4, [.ref 55, .int 0, .int 0, .int 0]), .inl (3, 60, .inr (.inl (fun _ => 0))), .inr (4, [.ref 57, .int 0, .int 0, .int 0]), .inl (3, 60, .inr (.inl (fun _ => 0))), .inr (4, [.ref 59, .int 0, .int 0, .int 0]), .inl (3, 60, .inr (.inl (fun _ => 0))), .inr (4, [.ref 61, .int 0, .int 0, .int 0]), .inl (3, 60, .inr (.inl (fun _ => 0))), .inr (1, [.null, .int 0, .int 0, .int 0])] [.ref 62] [.inr (8, [.ref 1, .ref 3, .ref 15, .ref 24, .ref 52, .ref 53, .null, .null, .null, .null, .null, .null]), .inr (6, [.ref 2, .int 0]), .inl (1, 500, .inl (fun _ => 0)), .inr (2, [.ref 4, .int 0, .int (-1), .ref 1, .ref 13, .int 0, .int 0, .int 0, .int 0, .int 0]), .inr (5, [.int 0, .int 0, .int 0, .int 0, .int 0, .int 0, .int 0, .ref 5, .ref 6, .ref 7, .ref 8, .ref 9, .ref 10, .ref 11, .ref 12]), .inl (0, 8, .inl (fun _ => 0)), .inl (0, 8, .inl (fun _ => 0)), .inl (0, 8, .inl (fun _ => 0)), .inl (0, 8, .inl (fun _ => 0)), .inl (0, 8, .inl (fun _ => 0)), .inl (0, 20, .inl (fun _ => 0)), .inl (0, 20, .inl (fun _ => 0)), .inl (2, 20, .inl (fun _ => 0)), .inr (0, [.ref 14, .int 0]), .inl (0, 10, .inl (fun _ => 0)), .inr (5, [.int 0, .int 0, .int 0, .int 0, .int 0, .int 0, .int 0, .ref 16, .ref 17, .ref 18, .ref 19, .ref 20, .ref 21, .ref 22, .ref 23]), .inl (0, 8, .inl (fun _ => 0)), .inl (0, 8, .inl (fun _ => 0)), .inl (0, 8, .inl (fun _ => 0)), .inl (0, 8, .inl (fun _ => 0)), .inl (0, 8, .inl (fun _ => 0)), .inl (0, 20, .inl (fun _ => 0)), .inl (0, 20, .inl (fun _ => 0)), .inl (2, 20, .inl (fun _ => 0)), .inl (4, 3, .inr (.inr (.inr (.inr (va_up (va_up (va_up (fun _ => none) 0 (some 25)) 1 (some 34)) 2 (some 43)))))), .inr (5, [.int 0, .int 0, .int 0, .int 0, .int 0, .int 0, .int 0, .ref 26, .ref 27, .ref 28, .ref 29, .ref 30, .ref 31, .ref 32, .ref 33]), .inl (0, 8, .inl (fun _ => 0)), .inl (0, 8, .inl (fun _ => 0)), .inl (0, 8, .inl (fun _ => 0)), .inl (0, 8, .inl (fun _ => 0)), .inl (0, 8, .inl (fun _ => 0)), .inl (0, 20, .inl (fun _ => 0)), .inl (0, 20, .inl (fun _ => 0)), .inl (2, 20, .inl (fun _ => 0)), .inr (5, [.int 0, .int 0, .int 0, .int 0, .int 0, .int 0, .int 0, .ref 35, .ref 36, .ref 37, .ref 38, .ref 39, .ref 40, .ref 41, .ref 42]), .inl (0, 8, .inl (fun _ => 0)), .inl (0, 8, .inl (fun _ => 0)), .inl (0, 8, .inl (fun _ => 0)), .inl (0, 8, .inl (fun _ => 0)), .inl (0, 8, .inl (fun _ => 0)), .inl (0, 20, .inl (fun _ => 0)), .inl (0, 20, .inl (fun _ => 0)), .inl (2, 20, .inl (fun _ => 0)), .inr (5, [.int 0, .int 0, .int 0, .int 0, .int 0, .int 0, .int 0, .ref 44, .ref 45, .ref 46, .ref 47, .ref 48, .ref 49, .ref 50, .ref 51]), .inl (0, 8, .inl (fun _ => 0)), .inl (0, 8, .inl (fun _ => 0)), .inl (0, 8, .inl (fun _ => 0)), .inl (0, 8, .inl (fun _ => 0)), .inl (0, 8, .inl (fun _ => 0)), .inl (0, 20, .inl (fun _ => 0)), .inl (0, 20, .inl (fun _ => 0)), .inl (2, 20, .inl (fun _ => 0)), .inl (2, 3, .inl (fun _ => 0)), .inl (5, 4, .inr (.inr (.inr (.inr (va_up (va_up (va_up (va_up (fun _ => none) 0 (some 54)) 1 (some 56)) 2 (some 58)) 3 (some 60)))))), .inr (4, [.ref 55, .int 0, .int 0, .int 0]), .inl (3, 60, .inr (.inl (fun _ => 0))), .inr (4, [.ref 57, .int 0, .int 0, .int 0]), .inl (3, 60, .inr (.inl (fun _ => 0))), .inr (4, [.ref 59, .int 0, .int 0, .int 0]), .inl (3, 60, .inr (.inl (fun _ => 0))), .inr (4, [.ref 61, .int 0, .int 0, .int 0]), .inl (3, 60, .inr (.inl (fun _ => 0))), .inr (1, [.ref 63, .int 0, .int 0, .int 0]), .inl (0, 8, .inl (fun _ => 0))] none := by
  refine Rt_of aiX1_init (by decide) ?_
  refine Go_st rfl rfl ?_
  refine Go_st rfl rfl ?_
  refine Go_st rfl rfl ?_
  refine Go_st rfl rfl ?_
  refine Go_st rfl rfl ?_
  refine Go_st rfl rfl ?_
  exact Go_ret rfl ⟨rfl, rfl⟩
set_option maxRecDepth 20000 in
set_option maxHeartbeats 4000000 in
theorem rc_13 (d : Nat) : pm_Rt pm_P (d + 1) 66 [.inr (8, [.ref 1, .ref 3, .ref 15, .ref 24, .ref 52, .ref 53, .ref 62, .null, .null, .null, .null, .null]), .inr (6, [.ref 2, .int 0]), .inl (1, 500, .inl (fun _ => 0)), .inr (2, [.ref 4, .int 0, .int (-1), .ref 1, .ref 13, .int 0, .int 0, .int 0, .int 0, .int 0]), .inr (5, [.int 0, .int 0, .int 0, .int 0, .int 0, .int 0, .int 0, .ref 5, .ref 6, .ref 7, .ref 8, .ref 9, .ref 10, .ref 11, .ref 12]), .inl (0, 8, .inl (fun _ => 0)), .inl (0, 8, .inl (fun _ => 0)), .inl (0, 8, .inl (fun _ => 0)), .inl (0, 8, .inl (fun _ => 0)), .inl (0, 8, .inl (fun _ => 0)), .inl (0, 20, .inl (fun _ => 0)), .inl (0, 20, .inl (fun _ => 0)), .inl (2, 20, .inl (fun _ => 0)), .inr (0, [.ref 14, .int 0]), .inl (0, 10, .inl (fun _ => 0)), .inr (5, [.int 0, .int 0, .int 0, .int 0, .int 0, .int 0, .int 0, .ref 16, .ref 17, .ref 18, .ref 19, .ref 20, .ref 21, .ref 22, .ref 23]), .inl (0, 8, .inl (fun _ => 0)), .inl (0, 8, .inl (fun _ => 0)), .inl (0, 8, .inl (fun _ => 0)), .inl (0, 8, .inl (fun _ => 0)), .inl (0, 8, .inl (fun _ => 0)), .inl (0, 20, .inl (fun _ => 0)), .inl (0, 20, .inl (fun _ => 0)), .inl (2, 20, .inl (fun _ => 0)), .inl (4, 3, .inr (.inr (.inr (.inr (va_up (va_up (va_up (fun _ => none) 0 (some 25)) 1 (some 34)) 2 (some 43)))))), .inr (5, [.int 0, .int 0, .int 0, .int 0, .int 0, .int 0, .int 0, .ref 26, .ref 27, .ref 28, .ref 29, .ref 30, .ref 31, .ref 32, .ref 33]), .inl (0, 8, .inl (fun _ => 0)), .inl (0, 8, .inl (fun _ => 0)), .inl (0, 8, .inl (fun _ => 0)), .inl (0, 8, .inl (fun _ => 0)), .inl (0, 8, .inl (fun _ => 0)), .inl (0, 20, .inl (fun _ => 0)), .inl (0, 20, .inl (fun _ => 0)), .inl (2, 20, .inl (fun _ => 0)), .inr (5, [.int 0, .int 0, .int 0, .int 0, .int 0, .int 0, .int 0, .ref 35, .ref 36, .ref 37, .ref 38, .ref 39, .ref 40, .ref 41, .ref 42]), .inl (0, 8, .inl (fun _ => 0)), .inl (0, 8, .inl (fun _ => 0)), .inl (0, 8, .inl (fun _ => 0)), .inl (0, 8, .inl (fun _ => 0)), .inl (0, 8, .inl (fun _ => 0)), .inl (0, 20, .inl (fun _ => 0)), .inl (0, 20, .inl (fun _ => 0)), .inl (2, 20, .inl (fun _ => 0)), .inr (5, [.int 0, .int 0, .int 0, .int 0, .int 0, .int 0, .int 0, .ref 44, .ref 45, .ref 46, .ref 47, .ref 48, .ref 49, .ref 50, .ref 51]), .inl (0, 8, .inl (fun _ => 0)), .inl (0, 8, .inl (fun _ => 0)), .inl (0, 8, .inl (fun _ => 0)), .inl (0, 8, .inl (fun _ => 0)), .inl (0, 8, .inl (fun _ => 0)), .inl (0, 20, .inl (fun _ => 0)), .inl (0, 20, .inl (fun _ => 0)), .inl (2, 20, .inl (fun _ => 0)), .inl (2, 3, .inl (fun _ => 0)), .inl (5, 4, .inr (.inr (.inr (.inr (va_up (va_up (va_up (va_up (fun _ => none) 0 (some 54)) 1 (some 56)) 2 (some 58)) 3 (some 60)))))), .inr (4, [.ref 55, .int 0, .int 0, .int 0]), .inl (3, 60, .inr (.inl (fun _ => 0))), .inr (4, [.ref 57, .int 0, .int 0, .int 0]), .inl (3, 60, .inr (.inl (fun _ => 0))), .inr (4, [.ref 59, .int 0, .int 0, .int 0]), .inl (3, 60, .inr (.inl (fun _ => 0))), .inr (4, [.ref 61, .int 0, .int 0, .int 0]), .inl (3, 60, .inr (.inl (fun _ => 0))), .inr (1, [.ref 63, .int 0, .int 0, .int 0]), .inl (0, 8, .inl (fun _ => 0)), .inr (7, [.null, .null, .null, .null, .null, .int 0, .int 0])] [.ref 64] [.inr (8, [.ref 1, .ref 3, .ref 15, .ref 24, .ref 52, .ref 53, .ref 62, .null, .null, .null, .null, .null]), .inr (6, [.ref 2, .int 0]), .inl (1, 500, .inl (fun _ => 0)), .inr (2, [.ref 4, .int 0, .int (-1), .ref 1, .ref 13, .int 0, .int 0, .int 0, .int 0, .int 0]), .inr (5, [.int 0, .int 0, .int 0, .int 0, .int 0, .int 0, .int 0, .ref 5, .ref 6, .ref 7, .ref 8, .ref 9, .ref 10, .ref 11, .ref 12]), .inl (0, 8, .inl (fun _ => 0)), .inl (0, 8, .inl (fun _ => 0)), .inl (0, 8, .inl (fun _ => 0)), .inl (0, 8, .inl (fun _ => 0)), .inl (0, 8, .inl (fun _ => 0)), .inl (0, 20, .inl (fun _ => 0)), .inl (0, 20, .inl (fun _ => 0)), .inl (2, 20, .inl (fun _ => 0)), .inr (0, [.ref 14, .int 0]), .inl (0, 10, .inl (fun _ => 0)), .inr (5, [.int 0, .int 0, .int 0, .int 0, .int 0, .int 0, .int 0, .ref 16, .ref 17, .ref 18, .ref 19, .ref 20, .ref 21, .ref 22, .ref 23]), .inl (0, 8, .inl (fun _ => 0)), .inl (0, 8, .inl (fun _ => 0)), .inl (0, 8, .inl (fun _ => 0)), .inl (0, 8, .inl (fun _ => 0)), .inl (0, 8, .inl (fun _ => 0)), .inl (0, 20, .inl (fun _ => 0)), .inl (0, 20, .inl (fun _ => 0)), .inl (2, 20, .inl (fun _ => 0)), .inl (4, 3, .inr (.inr (.inr (.inr (va_up (va_up (va_up (fun _ => none) 0 (some 25)) 1 (some 34)) 2 (some 43)))))), .inr (5, [.int 0, .int 0, .int 0, .int 0, .int 0, .int 0, .int 0, .ref 26, .ref 27, .ref 28, .ref 29, .ref 30, .ref 31, .ref 32, .ref 33]), .inl (0, 8, .inl (fun _ => 0)), .inl (0, 8, .inl (fun _ => 0)), .inl (0, 8, .inl (fun _ => 0)), .inl (0, 8, .inl (fun _ => 0)), .inl (0, 8, .inl (fun _ => 0)), .inl (0, 20, .inl (fun _ => 0)), .inl (0, 20, .inl (fun _ => 0)), .inl (2, 20, .inl (fun _ => 0)), .inr (5, [.int 0, .int 0, .int 0, .int 0, .int 0, .int 0, .int 0, .ref 35, .ref 36, .ref 37, .ref 38, .ref 39, .ref 40, .ref 41, .ref 42]), .inl (0, 8, .inl (fun _ => 0)), .inl (0, 8, .inl (fun _ => 0)), .inl (0, 8, .inl (fun _ => 0)), .inl (0, 8, .inl (fun _ => 0)), .inl (0, 8, .inl (fun _ => 0)), .inl (0, 20, .inl (fun _ => 0)), .inl (0, 20, .inl (fun _ => 0)), .inl (2, 20, .inl (fun _ => 0)), .inr (5, [.int 0, .int 0, .int 0, .int 0, .int 0, .int 0, .int 0, .ref 44, .ref 45, .ref 46, .ref 47, .ref 48, .ref 49, .ref 50, .ref 51]), .inl (0, 8, .inl (fun _ => 0)), .inl (0, 8, .inl (fun _ => 0)), .inl (0, 8, .inl (fun _ => 0)), .inl (0, 8, .inl (fun _ => 0)), .inl (0, 8, .inl (fun _ => 0)), .inl (0, 20, .inl (fun _ => 0)), .inl (0, 20, .inl (fun _ => 0)), .inl (2, 20, .inl (fun _ => 0)), .inl (2, 3, .inl (fun _ => 0)), .inl (5, 4, .inr (.inr (.inr (.inr (va_up (va_up (va_up (va_up (fun _ => none) 0 (some 54)) 1 (some 56)) 2 (some 58)) 3 (some 60)))))), .inr (4, [.ref 55, .int 0, .int 0, .int 0]), .inl (3, 60, .inr (.inl (fun _ => 0))), .inr (4, [.ref 57, .int 0, .int 0, .int 0]), .inl (3, 60, .inr (.inl (fun _ => 0))), .inr (4, [.ref 59, .int 0, .int 0, .int 0]), .inl (3, 60, .inr (.inl (fun _ => 0))), .inr (4, [.ref 61, .int 0, .int 0, .int 0]), .inl (3, 60, .inr (.inl (fun _ => 0))), .inr (1, [.ref 63, .int 0, .int 0, .int 0]), .inl (0, 8, .inl (fun _ => 0)), .inr (7, [.ref 65, .ref 66, .ref 67, .ref 68, .ref 69, .int 0, .int 0]), .inl (0, 9, .inl (fun _ => 0)), .inl (0, 9, .inl (fun _ => 0)), .inl (0, 9, .inl (fun _ => 0)), .inl (0, 9, .inl (fun _ => 0)), .inl (0, 9, .inl (fun _ => 0))] none := by
  refine Rt_of aiX7_init (by decide) ?_
  refine Go_st rfl rfl ?_
  refine Go_st rfl rfl ?_
  refine Go_st rfl rfl ?_
  refine Go_st rfl rfl ?_
  refine Go_st rfl rfl ?_
  refine Go_st rfl rfl ?_
  refine Go_st rfl rfl ?_
  refine Go_st rfl rfl ?_
  refine Go_st rfl rfl ?_
  refine Go_st rfl rfl ?_
  refine Go_st rfl rfl ?_
  refine Go_st rfl rfl ?_
  refine Go_st rfl rfl ?_
  refine Go_st rfl rfl ?_
  refine Go_st rfl rfl ?_
  refine Go_st rfl rfl ?_
  refine Go_st rfl rfl ?_
  refine Go_st rfl rfl ?_
  refine Go_st rfl rfl ?_
  refine Go_st rfl rfl ?_
  refine Go_st rfl rfl ?_
  refine Go_st rfl rfl ?_
  exact Go_ret rfl ⟨rfl, rfl⟩
set_option maxRecDepth 20000 in
set_option maxHeartbeats 4000000 in
theorem rc_14 (d : Nat) : pm_Rt pm_P (d + 1) 13 [.inr (8, [.ref 1, .ref 3, .ref 15, .ref 24, .ref 52, .ref 53, .ref 62, .ref 64, .null, .null, .null, .null]), .inr (6, [.ref 2, .int 0]), .inl (1, 500, .inl (fun _ => 0)), .inr (2, [.ref 4, .int 0, .int (-1), .ref 1, .ref 13, .int 0, .int 0, .int 0, .int 0, .int 0]), .inr (5, [.int 0, .int 0, .int 0, .int 0, .int 0, .int 0, .int 0, .ref 5, .ref 6, .ref 7, .ref 8, .ref 9, .ref 10, .ref 11, .ref 12]), .inl (0, 8, .inl (fun _ => 0)), .inl (0, 8, .inl (fun _ => 0)), .inl (0, 8, .inl (fun _ => 0)), .inl (0, 8, .inl (fun _ => 0)), .inl (0, 8, .inl (fun _ => 0)), .inl (0, 20, .inl (fun _ => 0)), .inl (0, 20, .inl (fun _ => 0)), .inl (2, 20, .inl (fun _ => 0)), .inr (0, [.ref 14, .int 0]), .inl (0, 10, .inl (fun _ => 0)), .inr (5, [.int 0, .int 0, .int 0, .int 0, .int 0, .int 0, .int 0, .ref 16, .ref 17, .ref 18, .ref 19, .ref 20, .ref 21, .ref 22, .ref 23]), .inl (0, 8, .inl (fun _ => 0)), .inl (0, 8, .inl (fun _ => 0)), .inl (0, 8, .inl (fun _ => 0)), .inl (0, 8, .inl (fun _ => 0)), .inl (0, 8, .inl (fun _ => 0)), .inl (0, 20, .inl (fun _ => 0)), .inl (0, 20, .inl (fun _ => 0)), .inl (2, 20, .inl (fun _ => 0)), .inl (4, 3, .inr (.inr (.inr (.inr (va_up (va_up (va_up (fun _ => none) 0 (some 25)) 1 (some 34)) 2 (some 43)))))), .inr (5, [.int 0, .int 0, .int 0, .int 0, .int 0, .int 0, .int 0, .ref 26, .ref 27, .ref 28, .ref 29, .ref 30, .ref 31, .ref 32, .ref 33]), .inl (0, 8, .inl (fun _ => 0)), .inl (0, 8, .inl (fun _ => 0)), .inl (0, 8, .inl (fun _ => 0)), .inl (0, 8, .inl (fun _ => 0)), .inl (0, 8, .inl (fun _ => 0)), .inl (0, 20, .inl (fun _ => 0)), .inl (0, 20, .inl (fun _ => 0)), .inl (2, 20, .inl (fun _ => 0)), .inr (5, [.int 0, .int 0, .int 0, .int 0, .int 0, .int 0, .int 0, .ref 35, .ref 36, .ref 37, .ref 38, .ref 39, .ref 40, .ref 41, .ref 42]), .inl (0, 8, .inl (fun _ => 0)), .inl (0, 8, .inl (fun _ => 0)), .inl (0, 8, .inl (fun _ => 0)), .inl (0, 8, .inl (fun _ => 0)), .inl (0, 8, .inl (fun _ => 0)), .inl (0, 20, .inl (fun _ => 0)), .inl (0, 20, .inl (fun _ => 0)), .inl (2, 20, .inl (fun _ => 0)), .inr (5, [.int 0, .int 0, .int 0, .int 0, .int 0, .int 0, .int 0, .ref 44, .ref 45, .ref 46, .ref 47, .ref 48, .ref 49, .ref 50, .ref 51]), .inl (0, 8, .inl (fun _ => 0)), .inl (0, 8, .inl (fun _ => 0)), .inl (0, 8, .inl (fun _ => 0)), .inl (0, 8, .inl (fun _ => 0)), .inl (0, 8, .inl (fun _ => 0)), .inl (0, 20, .inl (fun _ => 0)), .inl (0, 20, .inl (fun _ => 0)), .inl (2, 20, .inl (fun _ => 0)), .inl (2, 3, .inl (fun _ => 0)), .inl (5, 4, .inr (.inr (.inr (.inr (va_up (va_up (va_up (va_up (fun _ => none) 0 (some 54)) 1 (some 56)) 2 (some 58)) 3 (some 60)))))), .inr (4, [.ref 55, .int 0, .int 0, .int 0]), .inl (3, 60, .inr (.inl (fun _ => 0))), .inr (4, [.ref 57, .int 0, .int 0, .int 0]), .inl (3, 60, .inr (.inl (fun _ => 0))), .inr (4, [.ref 59, .int 0, .int 0, .int 0]), .inl (3, 60, .inr (.inl (fun _ => 0))), .inr (4, [.ref 61, .int 0, .int 0, .int 0]), .inl (3, 60, .inr (.inl (fun _ => 0))), .inr (1, [.ref 63, .int 0, .int 0, .int 0]), .inl (0, 8, .inl (fun _ => 0)), .inr (7, [.ref 65, .ref 66, .ref 67, .ref 68, .ref 69, .int 0, .int 0]), .inl (0, 9, .inl (fun _ => 0)), .inl (0, 9, .inl (fun _ => 0)), .inl (0, 9, .inl (fun _ => 0)), .inl (0, 9, .inl (fun _ => 0)), .inl (0, 9, .inl (fun _ => 0)), .inr (0, [.null, .int 0])] [.ref 70] [.inr (8, [.ref 1, .ref 3, .ref 15, .ref 24, .ref 52, .ref 53, .ref 62, .ref 64, .null, .null, .null, .null]), .inr (6, [.ref 2, .int 0]), .inl (1, 500, .inl (fun _ => 0)), .inr (2, [.ref 4, .int 0, .int (-1), .ref 1, .ref 13, .int 0, .int 0, .int 0, .int 0, .int 0]), .inr (5, [.int 0, .int 0, .int 0, .int 0, .int 0, .int 0, .int 0, .ref 5, .ref 6, .ref 7, .ref 8, .ref 9, .ref 10, .ref 11, .ref 12]), .inl (0, 8, .inl (fun _ => 0)), .inl (0, 8, .inl (fun _ => 0)), .inl (0, 8, .inl (fun _ => 0)), .inl (0, 8, .inl (fun _ => 0)), .inl (0, 8, .inl (fun _ => 0)), .inl (0, 20, .inl (fun _ => 0)), .inl (0, 20, .inl (fun _ => 0)), .inl (2, 20, .inl (fun _ => 0)), .inr (0, [.ref 14, .int 0]), .inl (0, 10, .inl (fun _ => 0)), .inr (5, [.int 0, .int 0, .int 0, .int 0, .int 0, .int 0, .int 0, .ref 16, .ref 17, .ref 18, .ref 19, .ref 20, .ref 21, .ref 22, .ref 23]), .inl (0, 8, .inl (fun _ => 0)), .inl (0, 8, .inl (fun _ => 0)), .inl (0, 8, .inl (fun _ => 0)), .inl (0, 8, .inl (fun _ => 0)), .inl (0, 8, .inl (fun _ => 0)), .inl (0, 20, .inl (fun _ => 0)), .inl (0, 20, .inl (fun _ => 0)), .inl (2, 20, .inl (fun _ => 0)), .inl (4, 3, .inr (.inr (.inr (.inr (va_up (va_up (va_up (fun _ => none) 0 (some 25)) 1 (some 34)) 2 (some 43)))))), .inr (5, [.int 0, .int 0, .int 0, .int 0, .int 0, .int 0, .int 0, .ref 26, .ref 27, .ref 28, .ref 29, .ref 30, .ref 31, .ref 32, .ref 33]), .inl (0, 8, .inl (fun _ => 0)), .inl (0, 8, .inl (fun _ => 0)), .inl (0, 8, .inl (fun _ => 0)), .inl (0, 8, .inl (fun _ => 0)), .inl (0, 8, .inl (fun _ => 0)), .inl (0, 20, .inl (fun _ => 0)), .inl (0, 20, .inl (fun _ => 0)), .inl (2, 20, .inl (fun _ => 0)), .inr (5, [.int 0, .int 0, .int 0, .int 0, .int 0, .int 0, .int 0, .ref 35, .ref 36, .ref 37, .ref 38, .ref 39, .ref 40, .ref 41, .ref 42]), .inl (0, 8, .inl (fun _ => 0)), .inl (0, 8, .inl (fun _ => 0)), .inl (0, 8, .inl (fun _ => 0)), .inl (0, 8, .inl (fun _ => 0)), .inl (0, 8, .inl (fun _ => 0)), .inl (0, 20, .inl (fun _ => 0)), .inl (0, 20, .inl (fun _ => 0)), .inl (2, 20, .inl (fun _ => 0)), .inr (5, [.int 0, .int 0, .int 0, .int 0, .int 0, .int 0, .int 0, .ref 44, .ref 45, .ref 46, .ref 47, .ref 48, .ref 49, .ref 50, .ref 51]), .inl (0, 8, .inl (fun _ => 0)), .inl (0, 8, .inl (fun _ => 0)), .inl (0, 8, .inl (fun _ => 0)), .inl (0, 8, .inl (fun _ => 0)), .inl (0, 8, .inl (fun _ => 0)), .inl (0, 20, .inl (fun _ => 0)), .inl (0, 20, .inl (fun _ => 0)), .inl (2, 20, .inl (fun _ => 0)), .inl (2, 3, .inl (fun _ => 0)), .inl (5, 4, .inr (.inr (.inr (.inr (va_up (va_up (va_up (va_up (fun _ => none) 0 (some 54)) 1 (some 56)) 2 (some 58)) 3 (some 60)))))), .inr (4, [.ref 55, .int 0, .int 0, .int 0]), .inl (3, 60, .inr (.inl (fun _ => 0))), .inr (4, [.ref 57, .int 0, .int 0, .int 0]), .inl (3, 60, .inr (.inl (fun _ => 0))), .inr (4, [.ref 59, .int 0, .int 0, .int 0]), .inl (3, 60, .inr (.inl (fun _ => 0))), .inr (4, [.ref 61, .int 0, .int 0, .int 0]), .inl (3, 60, .inr (.inl (fun _ => 0))), .inr (1, [.ref 63, .int 0, .int 0, .int 0]), .inl (0, 8, .inl (fun _ => 0)), .inr (7, [.ref 65, .ref 66, .ref 67, .ref 68, .ref 69, .int 0, .int 0]), .inl (0, 9, .inl (fun _ => 0)), .inl (0, 9, .inl (fun _ => 0)), .inl (0, 9, .inl (fun _ => 0)), .inl (0, 9, .inl (fun _ => 0)), .inl (0, 9, .inl (fun _ => 0)), .inr (0, [.ref 71, .int 0]), .inl (0, 10, .inl (fun _ => 0))] none := by
  refine Rt_of aiX0_init (by decide) ?_
  refine Go_st rfl rfl ?_
  refine Go_st rfl rfl ?_
  refine Go_st rfl rfl ?_
  refine Go_st rfl rfl ?_
  refine Go_st rfl rfl ?_
  refine Go_st rfl rfl ?_
  exact Go_ret rfl ⟨rfl, rfl⟩
set_option maxRecDepth 20000 in
set_option maxHeartbeats 4000000 in
theorem rc_15 (d : Nat) : pm_Rt pm_P (d + 1) 43 [.inr (8, [.ref 1, .ref 3, .ref 15, .ref 24, .ref 52, .ref 53, .ref 62, .ref 64, .ref 70, .null, .null, .null]), .inr (6, [.ref 2, .int 0]), .inl (1, 500, .inl (fun _ => 0)), .inr (2, [.ref 4, .int 0, .int (-1), .ref 1, .ref 13, .int 0, .int 0, .int 0, .int 0, .int 0]), .inr (5, [.int 0, .int 0, .int 0, .int 0, .int 0, .int 0, .int 0, .ref 5, .ref 6, .ref 7, .ref 8, .ref 9, .ref 10, .ref 11, .ref 12]), .inl (0, 8, .inl (fun _ => 0)), .inl (0, 8, .inl (fun _ => 0)), .inl (0, 8, .inl (fun _ => 0)), .inl (0, 8, .inl (fun _ => 0)), .inl (0, 8, .inl (fun _ => 0)), .inl (0, 20, .inl (fun _ => 0)), .inl (0, 20, .inl (fun _ => 0)), .inl (2, 20, .inl (fun _ => 0)), .inr (0, [.ref 14, .int 0]), .inl (0, 10, .inl (fun _ => 0)), .inr (5, [.int 0, .int 0, .int 0, .int 0, .int 0, .int 0, .int 0, .ref 16, .ref 17, .ref 18, .ref 19, .ref 20, .ref 21, .ref 22, .ref 23]), .inl (0, 8, .inl (fun _ => 0)), .inl (0, 8, .inl (fun _ => 0)), .inl (0, 8, .inl (fun _ => 0)), .inl (0, 8, .inl (fun _ => 0)), .inl (0, 8, .inl (fun _ => 0)), .inl (0, 20, .inl (fun _ => 0)), .inl (0, 20, .inl (fun _ => 0)), .inl (2, 20, .inl (fun _ => 0)), .inl (4, 3, .inr (.inr (.inr (.inr (va_up (va_up (va_up (fun _ => none) 0 (some 25)) 1 (some 34)) 2 (some 43)))))), .inr (5, [.int 0, .int 0, .int 0, .int 0, .int 0, .int 0, .int 0, .ref 26, .ref 27, .ref 28, .ref 29, .ref 30, .ref 31, .ref 32, .ref 33]), .inl (0, 8, .inl (fun _ => 0)), .inl (0, 8, .inl (fun _ => 0)), .inl (0, 8, .inl (fun _ => 0)), .inl (0, 8, .inl (fun _ => 0)), .inl (0, 8, .inl (fun _ => 0)), .inl (0, 20, .inl (fun _ => 0)), .inl (0, 20, .inl (fun _ => 0)), .inl (2, 20, .inl (fun _ => 0)), .inr (5, [.int 0, .int 0, .int 0, .int 0, .int 0, .int 0, .int 0, .ref 35, .ref 36, .ref 37, .ref 38, .ref 39, .ref 40, .ref 41, .ref 42]), .inl (0, 8, .inl (fun _ => 0)), .inl (0, 8, .inl (fun _ => 0)), .inl (0, 8, .inl (fun _ => 0)), .inl (0, 8, .inl (fun _ => 0)), .inl (0, 8, .inl (fun _ => 0)), .inl (0, 20, .inl (fun _ => 0)), .inl (0, 20, .inl (fun _ => 0)), .inl (2, 20, .inl (fun _ => 0)), .inr (5, [.int 0, .int 0, .int 0, .int 0, .int 0, .int 0, .int 0, .ref 44, .ref 45, .ref 46, .ref 47, .ref 48, .ref 49, .ref 50, .ref 51]), .inl (0, 8, .inl (fun _ => 0)), .inl (0, 8, .inl (fun _ => 0)), .inl (0, 8, .inl (fun _ => 0)), .inl (0, 8, .inl (fun _ => 0)), .inl (0, 8, .inl (fun _ => 0)), .inl (0, 20, .inl (fun _ => 0)), .inl (0, 20, .inl (fun _ => 0)), .inl (2, 20, .inl (fun _ => 0)), .inl (2, 3, .inl (fun _ => 0)), .inl (5, 4, .inr (.inr (.inr (.inr (va_up (va_up (va_up (va_up (fun _ => none) 0 (some 54)) 1 (some 56)) 2 (some 58)) 3 (some 60)))))), .inr (4, [.ref 55, .int 0, .int 0, .int 0]), .inl (3, 60, .inr (.inl (fun _ => 0))), .inr (4, [.ref 57, .int 0, .int 0, .int 0]), .inl (3, 60, .inr (.inl (fun _ => 0))), .inr (4, [.ref 59, .int 0, .int 0, .int 0]), .inl (3, 60, .inr (.inl (fun _ => 0))), .inr (4, [.ref 61, .int 0, .int 0, .int 0]), .inl (3, 60, .inr (.inl (fun _ => 0))), .inr (1, [.ref 63, .int 0, .int 0, .int 0]), .inl (0, 8, .inl (fun _ => 0)), .inr (7, [.ref 65, .ref 66, .ref 67, .ref 68, .ref 69, .int 0, .int 0]), .inl (0, 9, .inl (fun _ => 0)), .inl (0, 9, .inl (fun _ => 0)), .inl (0, 9, .inl (fun _ => 0)), .inl (0, 9, .inl (fun _ => 0)), .inl (0, 9, .inl (fun _ => 0)), .inr (0, [.ref 71, .int 0]), .inl (0, 10, .inl (fun _ => 0)), .inr (3, [.null, .null])] [.ref 72] [.inr (8, [.ref 1, .ref 3, .ref 15, .ref 24, .ref 52, .ref 53, .ref 62, .ref 64, .ref 70, .null, .null, .null]), .inr (6, [.ref 2, .int 0]), .inl (1, 500, .inl (fun _ => 0)), .inr (2, [.ref 4, .int 0, .int (-1), .ref 1, .ref 13, .int 0, .int 0, .int 0, .int 0, .int 0]), .inr (5, [.int 0, .int 0, .int 0, .int 0, .int 0, .int 0, .int 0, .ref 5, .ref 6, .ref 7, .ref 8, .ref 9, .ref 10, .ref 11, .ref 12]), .inl (0, 8, .inl (fun _ => 0)), .inl (0, 8, .inl (fun _ => 0)), .inl (0, 8, .inl (fun _ => 0)), .inl (0, 8, .inl (fun _ => 0)), .inl (0, 8, .inl (fun _ => 0)), .inl (0, 20, .inl (fun _ => 0)), .inl (0, 20, .inl (fun _ => 0)), .inl (2, 20, .inl (fun _ => 0)), .inr (0, [.ref 14, .int 0]), .inl (0, 10, .inl (fun _ => 0)), .inr (5, [.int 0, .int 0, .int 0, .int 0, .int 0, .int 0, .int 0, .ref 16, .ref 17, .ref 18, .ref 19, .ref 20, .ref 21, .ref 22, .ref 23]), .inl (0, 8, .inl (fun _ => 0)), .inl (0, 8, .inl (fun _ => 0)), .inl (0, 8, .inl (fun _ => 0)), .inl (0, 8, .inl (fun _ => 0)), .inl (0, 8, .inl (fun _ => 0)), .inl (0, 20, .inl (fun _ => 0)), .inl (0, 20, .inl (fun _ => 0)), .inl (2, 20, .inl (fun _ => 0)), .inl (4, 3, .inr (.inr (.inr (.inr (va_up (va_up (va_up (fun _ => none) 0 (some 25)) 1 (some 34)) 2 (some 43)))))), .inr (5, [.int 0, .int 0, .int 0, .int 0, .int 0, .int 0, .int 0, .ref 26, .ref 27, .ref 28, .ref 29, .ref 30, .ref 31, .ref 32, .ref 33]), .inl (0, 8, .inl (fun _ => 0)), .inl (0, 8, .inl (fun _ => 0)), .inl (0, 8, .inl (fun _ => 0)), .inl (0, 8, .inl (fun _ => 0)), .inl (0, 8, .inl (fun _ => 0)), .inl (0, 20, .inl (fun _ => 0)), .inl (0, 20, .inl (fun _ => 0)), .inl (2, 20, .inl (fun _ => 0)), .inr (5, [.int 0, .int 0, .int 0, .int 0, .int 0, .int 0, .int 0, .ref 35, .ref 36, .ref 37, .ref 38, .ref 39, .ref 40, .ref 41, .ref 42]), .inl (0, 8, .inl (fun _ => 0)), .inl (0, 8, .inl (fun _ => 0)), .inl (0, 8, .inl (fun _ => 0)), .inl (0, 8, .inl (fun _ => 0)), .inl (0, 8, .inl (fun _ => 0)), .inl (0, 20, .inl (fun _ => 0)), .inl (0, 20, .inl (fun _ => 0)), .inl (2, 20, .inl (fun _ => 0)), .inr (5, [.int 0, .int 0, .int 0, .int 0, .int 0, .int 0, .int 0, .ref 44, .ref 45, .ref 46, .ref 47, .ref 48, .ref 49, .ref 50, .ref 51]), .inl (0, 8, .inl (fun _ => 0)), .inl (0, 8, .inl (fun _ => 0)), .inl (0, 8, .inl (fun _ => 0)), .inl (0, 8, .inl (fun _ => 0)), .inl (0, 8, .inl (fun _ => 0)), .inl (0, 20, .inl (fun _ => 0)), .inl (0, 20, .inl (fun _ => 0)), .inl (2, 20, .inl (fun _ => 0)), .inl (2, 3, .inl (fun _ => 0)), .inl (5, 4, .inr (.inr (.inr (.inr (va_up (va_up (va_up (va_up (fun _ => none) 0 (some 54)) 1 (some 56)) 2 (some 58)) 3 (some 60)))))), .inr (4, [.ref 55, .int 0, .int 0, .int 0]), .inl (3, 60, .inr (.inl (fun _ => 0))), .inr (4, [.ref 57, .int 0, .int 0, .int 0]), .inl (3, 60, .inr (.inl (fun _ => 0))), .inr (4, [.ref 59, .int 0, .int 0, .int 0]), .inl (3, 60, .inr (.inl (fun _ => 0))), .inr (4, [.ref 61, .int 0, .int 0, .int 0]), .inl (3, 60, .inr (.inl (fun _ => 0))), .inr (1, [.ref 63, .int 0, .int 0, .int 0]), .inl (0, 8, .inl (fun _ => 0)), .inr (7, [.ref 65, .ref 66, .ref 67, .ref 68, .ref 69, .int 0, .int 0]), .inl (0, 9, .inl (fun _ => 0)), .inl (0, 9, .inl (fun _ => 0)), .inl (0, 9, .inl (fun _ => 0)), .inl (0, 9, .inl (fun _ => 0)), .inl (0, 9, .inl (fun _ => 0)), .inr (0, [.ref 71, .int 0]), .inl (0, 10, .inl (fun _ => 0)), .inr (3, [.ref 73, .ref 74]), .inl (0, 256, .inl (fun _ => 0)), .inl (0, 256, .inl (fun _ => 0))] none := by
  refine Rt_of aiX3_init (by decide) ?_
  refine Go_st rfl rfl ?_
  refine Go_st rfl rfl ?_
  refine Go_st rfl rfl ?_
  refine Go_st rfl rfl ?_
  refine Go_st rfl rfl ?_
  refine Go_st rfl rfl ?_
  refine Go_st rfl rfl ?_
  refine Go_st rfl rfl ?_
  refine Go_st rfl rfl ?_
  refine Go_st rfl rfl ?_
  exact Go_ret rfl ⟨rfl, rfl⟩
set_option maxRecDepth 20000 in
set_option maxHeartbeats 4000000 in
theorem rc_16 (d : Nat) : pm_Rt pm_P (d + 3) 122 [.inr (8, [.null, .null, .null, .null, .null, .null, .null, .null, .null, .null, .null, .null])] [.ref 0] [.inr (8, [.ref 1, .ref 3, .ref 15, .ref 24, .ref 52, .ref 53, .ref 62, .ref 64, .ref 70, .ref 72, .ref 75, .ref 76]), .inr (6, [.ref 2, .int 0]), .inl (1, 500, .inl (fun _ => 0)), .inr (2, [.ref 4, .int 0, .int (-1), .ref 1, .ref 13, .int 0, .int 0, .int 0, .int 0, .int 0]), .inr (5, [.int 0, .int 0, .int 0, .int 0, .int 0, .int 0, .int 0, .ref 5, .ref 6, .ref 7, .ref 8, .ref 9, .ref 10, .ref 11, .ref 12]), .inl (0, 8, .inl (fun _ => 0)), .inl (0, 8, .inl (fun _ => 0)), .inl (0, 8, .inl (fun _ => 0)), .inl (0, 8, .inl (fun _ => 0)), .inl (0, 8, .inl (fun _ => 0)), .inl (0, 20, .inl (fun _ => 0)), .inl (0, 20, .inl (fun _ => 0)), .inl (2, 20, .inl (fun _ => 0)), .inr (0, [.ref 14, .int 0]), .inl (0, 10, .inl (fun _ => 0)), .inr (5, [.int 0, .int 0, .int 0, .int 0, .int 0, .int 0, .int 0, .ref 16, .ref 17, .ref 18, .ref 19, .ref 20, .ref 21, .ref 22, .ref 23]), .inl (0, 8, .inl (fun _ => 0)), .inl (0, 8, .inl (fun _ => 0)), .inl (0, 8, .inl (fun _ => 0)), .inl (0, 8, .inl (fun _ => 0)), .inl (0, 8, .inl (fun _ => 0)), .inl (0, 20, .inl (fun _ => 0)), .inl (0, 20, .inl (fun _ => 0)), .inl (2, 20, .inl (fun _ => 0)), .inl (4, 3, .inr (.inr (.inr (.inr (va_up (va_up (va_up (fun _ => none) 0 (some 25)) 1 (some 34)) 2 (some 43)))))), .inr (5, [.int 0, .int 0, .int 0, .int 0, .int 0, .int 0, .int 0, .ref 26, .ref 27, .ref 28, .ref 29, .ref 30, .ref 31, .ref 32, .ref 33]), .inl (0, 8, .inl (fun _ => 0)), .inl (0, 8, .inl (fun _ => 0)), .inl (0, 8, .inl (fun _ => 0)), .inl (0, 8, .inl (fun _ => 0)), .inl (0, 8, .inl (fun _ => 0)), .inl (0, 20, .inl (fun _ => 0)), .inl (0, 20, .inl (fun _ => 0)), .inl (2, 20, .inl (fun _ => 0)), .inr (5, [.int 0, .int 0, .int 0, .int 0, .int 0, .int 0, .int 0, .ref 35, .ref 36, .ref 37, .ref 38, .ref 39, .ref 40, .ref 41, .ref 42]), .inl (0, 8, .inl (fun _ => 0)), .inl (0, 8, .inl (fun _ => 0)), .inl (0, 8, .inl (fun _ => 0)), .inl (0, 8, .inl (fun _ => 0)), .inl (0, 8, .inl (fun _ => 0)), .inl (0, 20, .inl (fun _ => 0)), .inl (0, 20, .inl (fun _ => 0)), .inl (2, 20, .inl (fun _ => 0)), .inr (5, [.int 0, .int 0, .int 0, .int 0, .int 0, .int 0, .int 0, .ref 44, .ref 45, .ref 46, .ref 47, .ref 48, .ref 49, .ref 50, .ref 51]), .inl (0, 8, .inl (fun _ => 0)), .inl (0, 8, .inl (fun _ => 0)), .inl (0, 8, .inl (fun _ => 0)), .inl (0, 8, .inl (fun _ => 0)), .inl (0, 8, .inl (fun _ => 0)), .inl (0, 20, .inl (fun _ => 0)), .inl (0, 20, .inl (fun _ => 0)), .inl (2, 20, .inl (fun _ => 0)), .inl (2, 3, .inl (fun _ => 0)), .inl (5, 4, .inr (.inr (.inr (.inr (va_up (va_up (va_up (va_up (fun _ => none) 0 (some 54)) 1 (some 56)) 2 (some 58)) 3 (some 60)))))), .inr (4, [.ref 55, .int 0, .int 0, .int 0]), .inl (3, 60, .inr (.inl (fun _ => 0))), .inr (4, [.ref 57, .int 0, .int 0, .int 0]), .inl (3, 60, .inr (.inl (fun _ => 0))), .inr (4, [.ref 59, .int 0, .int 0, .int 0]), .inl (3, 60, .inr (.inl (fun _ => 0))), .inr (4, [.ref 61, .int 0, .int 0, .int 0]), .inl (3, 60, .inr (.inl (fun _ => 0))), .inr (1, [.ref 63, .int 0, .int 0, .int 0]), .inl (0, 8, .inl (fun _ => 0)), .inr (7, [.ref 65, .ref 66, .ref 67, .ref 68, .ref 69, .int 0, .int 0]), .inl (0, 9, .inl (fun _ => 0)), .inl (0, 9, .inl (fun _ => 0)), .inl (0, 9, .inl (fun _ => 0)), .inl (0, 9, .inl (fun _ => 0)), .inl (0, 9, .inl (fun _ => 0)), .inr (0, [.ref 71, .int 0]), .inl (0, 10, .inl (fun _ => 0)), .inr (3, [.ref 73, .ref 74]), .inl (0, 256, .inl (fun _ => 0)), .inl (0, 256, .inl (fun _ => 0)), .inl (0, 8, .inl (fun _ => 0)), .inl (0, 64, .inl (fun _ => 0))] none := by
  refine Rt_of aiX8_init (by decide) ?_
  refine Go_st rfl rfl ?_
  refine Go_st rfl rfl ?_
  refine Go_st rfl rfl ?_
  refine Go_st rfl rfl ?_
  refine Go_st rfl rfl ?_
  refine Go_call rfl (rc_0 (d + 1)) (chkV rfl rfl rfl rfl rfl rfl rfl) ?_
  refine Go_st rfl rfl ?_
  refine Go_st rfl rfl ?_
  refine Go_st rfl rfl ?_
  refine Go_st rfl rfl ?_
  refine Go_st rfl rfl ?_
  refine Go_st rfl rfl ?_
  refine Go_call rfl (rc_3 d) (chkV rfl rfl rfl rfl rfl rfl rfl) ?_
  refine Go_st rfl rfl ?_
  refine Go_st rfl rfl ?_
  refine Go_st rfl rfl ?_
  refine Go_st rfl rfl ?_
  refine Go_call rfl (rc_4 (d + 1)) (chkV rfl rfl rfl rfl rfl rfl rfl) ?_
  refine Go_st rfl rfl ?_
  refine Go_st rfl rfl ?_
  refine Go_st rfl rfl ?_
  refine Go_st rfl rfl ?_
  refine Go_st rfl rfl ?_
  refine Go_st rfl rfl ?_
  refine Go_st rfl rfl ?_
  refine Go_st rfl rfl ?_
  refine Go_st rfl rfl ?_
  refine Go_st rfl rfl ?_
  refine Go_ifF (by decide +kernel) ?_
  refine Go_st rfl rfl ?_
  refine Go_st rfl rfl ?_
  refine Go_st rfl rfl ?_
  refine Go_st rfl rfl ?_
  refine Go_st rfl rfl ?_
  refine Go_call rfl (rc_5 (d + 1)) (chkV rfl rfl rfl rfl rfl rfl rfl) ?_
  refine Go_st rfl rfl ?_
  refine Go_st rfl rfl ?_
  refine Go_st rfl rfl ?_
  refine Go_st rfl rfl ?_
  refine Go_st rfl rfl ?_
  refine Go_st rfl rfl ?_
  refine Go_ifF (by decide +kernel) ?_
  refine Go_st rfl rfl ?_
  refine Go_st rfl rfl ?_
  refine Go_st rfl rfl ?_
  refine Go_st rfl rfl ?_
  refine Go_st rfl rfl ?_
  refine Go_call rfl (rc_6 (d + 1)) (chkV rfl rfl rfl rfl rfl rfl rfl) ?_
  refine Go_st rfl rfl ?_
  refine Go_st rfl rfl ?_
  refine Go_st rfl rfl ?_
  refine Go_st rfl rfl ?_
  refine Go_st rfl rfl ?_
  refine Go_st rfl rfl ?_
  refine Go_ifF (by decide +kernel) ?_
  refine Go_st rfl rfl ?_
  refine Go_st rfl rfl ?_
  refine Go_st rfl rfl ?_
  refine Go_st rfl rfl ?_
  refine Go_st rfl rfl ?_
  refine Go_call rfl (rc_7 (d + 1)) (chkV rfl rfl rfl rfl rfl rfl rfl) ?_
  refine Go_st rfl rfl ?_
  refine Go_st rfl rfl ?_
  refine Go_st rfl rfl ?_
  refine Go_st rfl rfl ?_
  refine Go_st rfl rfl ?_
  refine Go_st rfl rfl ?_
  refine Go_ifT (by decide +kernel) ?_
  refine Go_st rfl rfl ?_
  refine Go_st rfl rfl ?_
  refine Go_st rfl rfl ?_
  refine Go_st rfl rfl ?_
  refine Go_st rfl rfl ?_
  refine Go_st rfl rfl ?_
  refine Go_st rfl rfl ?_
  refine Go_st rfl rfl ?_
  refine Go_st rfl rfl ?_
  refine Go_st rfl rfl ?_
  refine Go_st rfl rfl ?_
  refine Go_st rfl rfl ?_
  refine Go_st rfl rfl ?_
  refine Go_ifF (by decide +kernel) ?_
  refine Go_st rfl rfl ?_
  refine Go_st rfl rfl ?_
  refine Go_st rfl rfl ?_
  refine Go_st rfl rfl ?_
  refine Go_st rfl rfl ?_
  refine Go_call rfl (rc_8 (d + 1)) (chkV rfl rfl rfl rfl rfl rfl rfl) ?_
  refine Go_st rfl rfl ?_
  refine Go_st rfl rfl ?_
  refine Go_st rfl rfl ?_
  refine Go_st rfl rfl ?_
  refine Go_st rfl rfl ?_
  refine Go_st rfl rfl ?_
  refine Go_ifF (by decide +kernel) ?_
  refine Go_st rfl rfl ?_
  refine Go_st rfl rfl ?_
  refine Go_st rfl rfl ?_
  refine Go_st rfl rfl ?_
  refine Go_st rfl rfl ?_
  refine Go_call rfl (rc_9 (d + 1)) (chkV rfl rfl rfl rfl rfl rfl rfl) ?_
  refine Go_st rfl rfl ?_
  refine Go_st rfl rfl ?_
  refine Go_st rfl rfl ?_
  refine Go_st rfl rfl ?_
  refine Go_st rfl rfl ?_
  refine Go_st rfl rfl ?_
  refine Go_ifF (by decide +kernel) ?_
  refine Go_st rfl rfl ?_
  refine Go_st rfl rfl ?_
  refine Go_st rfl rfl ?_
  refine Go_st rfl rfl ?_
  refine Go_st rfl rfl ?_
  refine Go_call rfl (rc_10 (d + 1)) (chkV rfl rfl rfl rfl rfl rfl rfl) ?_
  refine Go_st rfl rfl ?_
  refine Go_st rfl rfl ?_
  refine Go_st rfl rfl ?_
  refine Go_st rfl rfl ?_
  refine Go_st rfl rfl ?_
  refine Go_st rfl rfl ?_
  refine Go_ifF (by decide +kernel) ?_
  refine Go_st rfl rfl ?_
  refine Go_st rfl rfl ?_
  refine Go_st rfl rfl ?_
  refine Go_st rfl rfl ?_
  refine Go_st rfl rfl ?_
  refine Go_call rfl (rc_11 (d + 1)) (chkV rfl rfl rfl rfl rfl rfl rfl) ?_
  refine Go_st rfl rfl ?_
  refine Go_st rfl rfl ?_
  refine Go_st rfl rfl ?_
  refine Go_st rfl rfl ?_
  refine Go_st rfl rfl ?_
  refine Go_st rfl rfl ?_
  refine Go_ifT (by decide +kernel) ?_
  refine Go_st rfl rfl ?_
  refine Go_st rfl rfl ?_
  refine Go_st rfl rfl ?_
  refine Go_call rfl (rc_12 (d + 1)) (chkV rfl rfl rfl rfl rfl rfl rfl) ?_
  refine Go_st rfl rfl ?_
  refine Go_st rfl rfl ?_
  refine Go_st rfl rfl ?_
  refine Go_st rfl rfl ?_
  refine Go_call rfl (rc_13 (d + 1)) (chkV rfl rfl rfl rfl rfl rfl rfl) ?_
  refine Go_st rfl rfl ?_
  refine Go_st rfl rfl ?_
  refine Go_st rfl rfl ?_
  refine Go_st rfl rfl ?_
  refine Go_call rfl (rc_14 (d + 1)) (chkV rfl rfl rfl rfl rfl rfl rfl) ?_
  refine Go_st rfl rfl ?_
  refine Go_st rfl rfl ?_
  refine Go_st rfl rfl ?_
  refine Go_st rfl rfl ?_
  refine Go_call rfl (rc_15 (d + 1)) (chkV rfl rfl rfl rfl rfl rfl rfl) ?_
  refine Go_st rfl rfl ?_
  refine Go_st rfl rfl ?_
  refine Go_st rfl rfl ?_
  refine Go_st rfl rfl ?_
  refine Go_st rfl rfl ?_
  refine Go_st rfl rfl ?_
  refine Go_st rfl rfl ?_
  refine Go_st rfl rfl ?_
  refine Go_st rfl rfl ?_
  exact Go_ret rfl ⟨rfl, rfl⟩
set_option maxRecDepth 20000 in
set_option maxHeartbeats 4000000 in
theorem rc_17 (d : Nat) : pm_Rt pm_P (d + 1) 262 [.inr (8, [.ref 1, .ref 3, .ref 15, .ref 24, .ref 52, .ref 53, .ref 62, .ref 64, .ref 70, .ref 72, .ref 75, .ref 76]), .inr (6, [.ref 2, .int 0]), .inl (1, 500, .inl (fun _ => 0)), .inr (2, [.ref 4, .int 0, .int (-1), .ref 1, .ref 13, .int 0, .int 0, .int 0, .int 0, .int 0]), .inr (5, [.int 0, .int 0, .int 0, .int 0, .int 0, .int 0, .int 0, .ref 5, .ref 6, .ref 7, .ref 8, .ref 9, .ref 10, .ref 11, .ref 12]), .inl (0, 8, .inl (fun _ => 0)), .inl (0, 8, .inl (fun _ => 0)), .inl (0, 8, .inl (fun _ => 0)), .inl (0, 8, .inl (fun _ => 0)), .inl (0, 8, .inl (fun _ => 0)), .inl (0, 20, .inl (fun _ => 0)), .inl (0, 20, .inl (fun _ => 0)), .inl (2, 20, .inl (fun _ => 0)), .inr (0, [.ref 14, .int 0]), .inl (0, 10, .inl (fun _ => 0)), .inr (5, [.int 0, .int 0, .int 0, .int 0, .int 0, .int 0, .int 0, .ref 16, .ref 17, .ref 18, .ref 19, .ref 20, .ref 21, .ref 22, .ref 23]), .inl (0, 8, .inl (fun _ => 0)), .inl (0, 8, .inl (fun _ => 0)), .inl (0, 8, .inl (fun _ => 0)), .inl (0, 8, .inl (fun _ => 0)), .inl (0, 8, .inl (fun _ => 0)), .inl (0, 20, .inl (fun _ => 0)), .inl (0, 20, .inl (fun _ => 0)), .inl (2, 20, .inl (fun _ => 0)), .inl (4, 3, .inr (.inr (.inr (.inr (va_up (va_up (va_up (fun _ => none) 0 (some 25)) 1 (some 34)) 2 (some 43)))))), .inr (5, [.int 0, .int 0, .int 0, .int 0, .int 0, .int 0, .int 0, .ref 26, .ref 27, .ref 28, .ref 29, .ref 30, .ref 31, .ref 32, .ref 33]), .inl (0, 8, .inl (fun _ => 0)), .inl (0, 8, .inl (fun _ => 0)), .inl (0, 8, .inl (fun _ => 0)), .inl (0, 8, .inl (fun _ => 0)), .inl (0, 8, .inl (fun _ => 0)), .inl (0, 20, .inl (fun _ => 0)), .inl (0, 20, .inl (fun _ => 0)), .inl (2, 20, .inl (fun _ => 0)), .inr (5, [.int 0, .int 0, .int 0, .int 0, .int 0, .int 0, .int 0, .ref 35, .ref 36, .ref 37, .ref 38, .ref 39, .ref 40, .ref 41, .ref 42]), .inl (0, 8, .inl (fun _ => 0)), .inl (0, 8, .inl (fun _ => 0)), .inl (0, 8, .inl (fun _ => 0)), .inl (0, 8, .inl (fun _ => 0)), .inl (0, 8, .inl (fun _ => 0)), .inl (0, 20, .inl (fun _ => 0)), .inl (0, 20, .inl (fun _ => 0)), .inl (2, 20, .inl (fun _ => 0)), .inr (5, [.int 0, .int 0, .int 0, .int 0, .int 0, .int 0, .int 0, .ref 44, .ref 45, .ref 46, .ref 47, .ref 48, .ref 49, .ref 50, .ref 51]), .inl (0, 8, .inl (fun _ => 0)), .inl (0, 8, .inl (fun _ => 0)), .inl (0, 8, .inl (fun _ => 0)), .inl (0, 8, .inl (fun _ => 0)), .inl (0, 8, .inl (fun _ => 0)), .inl (0, 20, .inl (fun _ => 0)), .inl (0, 20, .inl (fun _ => 0)), .inl (2, 20, .inl (fun _ => 0)), .inl (2, 3, .inl (fun _ => 0)), .inl (5, 4, .inr (.inr (.inr (.inr (va_up (va_up (va_up (va_up (fun _ => none) 0 (some 54)) 1 (some 56)) 2 (some 58)) 3 (some 60)))))), .inr (4, [.ref 55, .int 0, .int 0, .int 0]), .inl (3, 60, .inr (.inl (fun _ => 0))), .inr (4, [.ref 57, .int 0, .int 0, .int 0]), .inl (3, 60, .inr (.inl (fun _ => 0))), .inr (4, [.ref 59, .int 0, .int 0, .int 0]), .inl (3, 60, .inr (.inl (fun _ => 0))), .inr (4, [.ref 61, .int 0, .int 0, .int 0]), .inl (3, 60, .inr (.inl (fun _ => 0))), .inr (1, [.ref 63, .int 0, .int 0, .int 0]), .inl (0, 8, .inl (fun _ => 0)), .inr (7, [.ref 65, .ref 66, .ref 67, .ref 68, .ref 69, .int 0, .int 0]), .inl (0, 9, .inl (fun _ => 0)), .inl (0, 9, .inl (fun _ => 0)), .inl (0, 9, .inl (fun _ => 0)), .inl (0, 9, .inl (fun _ => 0)), .inl (0, 9, .inl (fun _ => 0)), .inr (0, [.ref 71, .int 0]), .inl (0, 10, .inl (fun _ => 0)), .inr (3, [.ref 73, .ref 74]), .inl (0, 256, .inl (fun _ => 0)), .inl (0, 256, .inl (fun _ => 0)), .inl (0, 8, .inl (fun _ => 0)), .inl (0, 64, .inl (fun _ => 0)), .inr (9, [.int 0, .null, .null, .null, .null, .null, .int 0, .int 0, .int 0, .int 0, .int 0, .long 0, .int 0, .int 0, .int 0, .int 0, .null, .null, .null, .null, .null, .null, .int 0, .int 0, .null, .null, .null, .int 0, .null, .null, .null, .null, .null, .null, .null, .int 0, .int 0, .null, .null, .int 0, .null, .int 0, .int 0, .int 0, .null])] [.ref 77] [.inr (8, [.ref 1, .ref 3, .ref 15, .ref 24, .ref 52, .ref 53, .ref 62, .ref 64, .ref 70, .ref 72, .ref 75, .ref 76]), .inr (6, [.ref 2, .int 0]), .inl (1, 500, .inl (fun _ => 0)), .inr (2, [.ref 4, .int 0, .int (-1), .ref 1, .ref 13, .int 0, .int 0, .int 0, .int 0, .int 0]), .inr (5, [.int 0, .int 0, .int 0, .int 0, .int 0, .int 0, .int 0, .ref 5, .ref 6, .ref 7, .ref 8, .ref 9, .ref 10, .ref 11, .ref 12]), .inl (0, 8, .inl (fun _ => 0)), .inl (0, 8, .inl (fun _ => 0)), .inl (0, 8, .inl (fun _ => 0)), .inl (0, 8, .inl (fun _ => 0)), .inl (0, 8, .inl (fun _ => 0)), .inl (0, 20, .inl (fun _ => 0)), .inl (0, 20, .inl (fun _ => 0)), .inl (2, 20, .inl (fun _ => 0)), .inr (0, [.ref 14, .int 0]), .inl (0, 10, .inl (fun _ => 0)), .inr (5, [.int 0, .int 0, .int 0, .int 0, .int 0, .int 0, .int 0, .ref 16, .ref 17, .ref 18, .ref 19, .ref 20, .ref 21, .ref 22, .ref 23]), .inl (0, 8, .inl (fun _ => 0)), .inl (0, 8, .inl (fun _ => 0)), .inl (0, 8, .inl (fun _ => 0)), .inl (0, 8, .inl (fun _ => 0)), .inl (0, 8, .inl (fun _ => 0)), .inl (0, 20, .inl (fun _ => 0)), .inl (0, 20, .inl (fun _ => 0)), .inl (2, 20, .inl (fun _ => 0)), .inl (4, 3, .inr (.inr (.inr (.inr (va_up (va_up (va_up (fun _ => none) 0 (some 25)) 1 (some 34)) 2 (some 43)))))), .inr (5, [.int 0, .int 0, .int 0, .int 0, .int 0, .int 0, .int 0, .ref 26, .ref 27, .ref 28, .ref 29, .ref 30, .ref 31, .ref 32, .ref 33]), .inl (0, 8, .inl (fun _ => 0)), .inl (0, 8, .inl (fun _ => 0)), .inl (0, 8, .inl (fun _ => 0)), .inl (0, 8, .inl (fun _ => 0)), .inl (0, 8, .inl (fun _ => 0)), .inl (0, 20, .inl (fun _ => 0)), .inl (0, 20, .inl (fun _ => 0)), .inl (2, 20, .inl (fun _ => 0)), .inr (5, [.int 0, .int 0, .int 0, .int 0, .int 0, .int 0, .int 0, .ref 35, .ref 36, .ref 37, .ref 38, .ref 39, .ref 40, .ref 41, .ref 42]), .inl (0, 8, .inl (fun _ => 0)), .inl (0, 8, .inl (fun _ => 0)), .inl (0, 8, .inl (fun _ => 0)), .inl (0, 8, .inl (fun _ => 0)), .inl (0, 8, .inl (fun _ => 0)), .inl (0, 20, .inl (fun _ => 0)), .inl (0, 20, .inl (fun _ => 0)), .inl (2, 20, .inl (fun _ => 0)), .inr (5, [.int 0, .int 0, .int 0, .int 0, .int 0, .int 0, .int 0, .ref 44, .ref 45, .ref 46, .ref 47, .ref 48, .ref 49, .ref 50, .ref 51]), .inl (0, 8, .inl (fun _ => 0)), .inl (0, 8, .inl (fun _ => 0)), .inl (0, 8, .inl (fun _ => 0)), .inl (0, 8, .inl (fun _ => 0)), .inl (0, 8, .inl (fun _ => 0)), .inl (0, 20, .inl (fun _ => 0)), .inl (0, 20, .inl (fun _ => 0)), .inl (2, 20, .inl (fun _ => 0)), .inl (2, 3, .inl (fun _ => 0)), .inl (5, 4, .inr (.inr (.inr (.inr (va_up (va_up (va_up (va_up (fun _ => none) 0 (some 54)) 1 (some 56)) 2 (some 58)) 3 (some 60)))))), .inr (4, [.ref 55, .int 0, .int 0, .int 0]), .inl (3, 60, .inr (.inl (fun _ => 0))), .inr (4, [.ref 57, .int 0, .int 0, .int 0]), .inl (3, 60, .inr (.inl (fun _ => 0))), .inr (4, [.ref 59, .int 0, .int 0, .int 0]), .inl (3, 60, .inr (.inl (fun _ => 0))), .inr (4, [.ref 61, .int 0, .int 0, .int 0]), .inl (3, 60, .inr (.inl (fun _ => 0))), .inr (1, [.ref 63, .int 0, .int 0, .int 0]), .inl (0, 8, .inl (fun _ => 0)), .inr (7, [.ref 65, .ref 66, .ref 67, .ref 68, .ref 69, .int 0, .int 0]), .inl (0, 9, .inl (fun _ => 0)), .inl (0, 9, .inl (fun _ => 0)), .inl (0, 9, .inl (fun _ => 0)), .inl (0, 9, .inl (fun _ => 0)), .inl (0, 9, .inl (fun _ => 0)), .inr (0, [.ref 71, .int 0]), .inl (0, 10, .inl (fun _ => 0)), .inr (3, [.ref 73, .ref 74]), .inl (0, 256, .inl (fun _ => 0)), .inl (0, 256, .inl (fun _ => 0)), .inl (0, 8, .inl (fun _ => 0)), .inl (0, 64, .inl (fun _ => 0)), .inr (9, [.int 0, .ref 78, .ref 79, .ref 80, .ref 81, .ref 82, .int 0, .int 0, .int 0, .int 0, .int 0, .long 0, .int 0, .int 0, .int 0, .int (-1), .ref 83, .ref 84, .ref 85, .ref 86, .ref 87, .ref 88, .int 0, .int 0, .ref 89, .ref 90, .ref 91, .int 0, .ref 92, .ref 93, .ref 94, .ref 95, .ref 96, .ref 97, .ref 98, .int 0, .int 0, .ref 99, .ref 100, .int 0, .ref 101, .int 0, .int 0, .int 0, .ref 102]), .inl (0, 4, .inl (upd (upd (upd (upd (fun _ => 0) 0 (-1)) 1 (-1)) 2 (-1)) 3 (-1))), .inl (0, 4, .inl (fun _ => 0)), .inl (3, 240, .inr (.inl (fun _ => 0))), .inl (3, 60, .inr (.inl (fun _ => 0))), .inl (1, 500, .inl (fun _ => 0)), .inl (0, 5, .inl (fun _ => 0)), .inl (0, 30, .inl (fun _ => 0)), .inl (0, 80, .inl (fun _ => 0)), .inl (0, 80, .inl (fun _ => 0)), .inl (0, 300, .inl (fun _ => 0)), .inl (2, 3, .inl (fun _ => 0)), .inl (0, 8, .inl (fun _ => 0)), .inl (0, 10, .inl (fun _ => 0)), .inl (0, 8, .inl (fun _ => 0)), .inl (0, 9, .inl (fun _ => 0)), .inl (0, 9, .inl (fun _ => 0)), .inl (0, 9, .inl (fun _ => 0)), .inl (0, 8, .inl (fun _ => 0)), .inl (0, 18, .inl (fun _ => 0)), .inl (0, 8, .inl (fun _ => 0)), .inl (0, 9, .inl (fun _ => 0)), .inl (0, 5, .inl (fun _ => 0)), .inl (0, 6, .inl (fun _ => 0)), .inl (0, 10, .inl (fun _ => 0)), .inl (0, 72, .inl (fun _ => 0))] none := by
  refine Rt_of aiX9_init (by decide) ?_
  refine Go_st rfl rfl ?_
  refine Go_st rfl rfl ?_
  refine Go_st rfl rfl ?_
  refine Go_st rfl rfl ?_
  refine Go_st rfl rfl ?_
  refine Go_st rfl rfl ?_
  refine Go_st rfl rfl ?_
  refine Go_st rfl rfl ?_
  refine Go_st rfl rfl ?_
  refine Go_st rfl rfl ?_
  refine Go_st rfl rfl ?_
  refine Go_st rfl rfl ?_
  refine Go_st rfl rfl ?_
  refine Go_st rfl rfl ?_
  refine Go_st rfl rfl ?_
  refine Go_st rfl rfl ?_
  refine Go_st rfl rfl ?_
  refine Go_st rfl rfl ?_
  refine Go_st rfl rfl ?_
  refine Go_st rfl rfl ?_
  refine Go_st rfl rfl ?_
  refine Go_st rfl rfl ?_
  refine Go_st rfl rfl ?_
  refine Go_st rfl rfl ?_
  refine Go_st rfl rfl ?_
  refine Go_st rfl rfl ?_
  refine Go_st rfl rfl ?_
  refine Go_st rfl rfl ?_
  refine Go_st rfl rfl ?_
  refine Go_st rfl rfl ?_
  refine Go_st rfl rfl ?_
  refine Go_st rfl rfl ?_
  refine Go_st rfl rfl ?_
  refine Go_st rfl rfl ?_
  refine Go_st rfl rfl ?_
  refine Go_st rfl rfl ?_
  refine Go_st rfl rfl ?_
  refine Go_st rfl rfl ?_
  refine Go_st rfl rfl ?_
  refine Go_st rfl rfl ?_
  refine Go_st rfl rfl ?_
  refine Go_st rfl rfl ?_
  refine Go_st rfl rfl ?_
  refine Go_st rfl rfl ?_
  refine Go_st rfl rfl ?_
  refine Go_st rfl rfl ?_
  refine Go_st rfl rfl ?_
  refine Go_st rfl rfl ?_
  refine Go_st rfl rfl ?_
  refine Go_st rfl rfl ?_
  refine Go_st rfl rfl ?_
  refine Go_st rfl rfl ?_
  refine Go_st rfl rfl ?_
  refine Go_st rfl rfl ?_
  refine Go_st rfl rfl ?_
  refine Go_st rfl rfl ?_
  refine Go_st rfl rfl ?_
  refine Go_st rfl rfl ?_
  refine Go_st rfl rfl ?_
  refine Go_st rfl rfl ?_
  refine Go_st rfl rfl ?_
  refine Go_st rfl rfl ?_
  refine Go_st rfl rfl ?_
  refine Go_st rfl rfl ?_
  refine Go_st rfl rfl ?_
  refine Go_st rfl rfl ?_
  refine Go_st rfl rfl ?_
  refine Go_st rfl rfl ?_
  refine Go_st rfl rfl ?_
  refine Go_st rfl rfl ?_
  refine Go_st rfl rfl ?_
  refine Go_st rfl rfl ?_
  refine Go_st rfl rfl ?_
  refine Go_st rfl rfl ?_
  refine Go_st rfl rfl ?_
  refine Go_st rfl rfl ?_
  refine Go_st rfl rfl ?_
  refine Go_st rfl rfl ?_
  refine Go_st rfl rfl ?_
  refine Go_st rfl rfl ?_
  refine Go_st rfl rfl ?_
  refine Go_st rfl rfl ?_
  refine Go_st rfl rfl ?_
  refine Go_st rfl rfl ?_
  refine Go_st rfl rfl ?_
  refine Go_st rfl rfl ?_
  refine Go_st rfl rfl ?_
  refine Go_st rfl rfl ?_
  refine Go_st rfl rfl ?_
  refine Go_st rfl rfl ?_
  refine Go_st rfl rfl ?_
  refine Go_st rfl rfl ?_
  refine Go_st rfl rfl ?_
  refine Go_st rfl rfl ?_
  refine Go_st rfl rfl ?_
  refine Go_st rfl rfl ?_
  refine Go_st rfl rfl ?_
  refine Go_st rfl rfl ?_
  refine Go_st rfl rfl ?_
  refine Go_st rfl rfl ?_
  refine Go_st rfl rfl ?_
  refine Go_st rfl rfl ?_
  refine Go_st rfl rfl ?_
  refine Go_st rfl rfl ?_
  refine Go_st rfl rfl ?_
  refine Go_st rfl rfl ?_
  refine Go_st rfl rfl ?_
  refine Go_st rfl rfl ?_
  refine Go_st rfl rfl ?_
  refine Go_st rfl rfl ?_
  refine Go_ifF (by decide +kernel) ?_
  refine Go_st rfl rfl ?_
  refine Go_st rfl rfl ?_
  refine Go_st rfl rfl ?_
  refine Go_st rfl rfl ?_
  refine Go_st rfl rfl ?_
  refine Go_st rfl rfl ?_
  refine Go_st rfl rfl ?_
  refine Go_st rfl rfl ?_
  refine Go_st rfl rfl ?_
  refine Go_st rfl rfl ?_
  refine Go_ifF (by decide +kernel) ?_
  refine Go_st rfl rfl ?_
  refine Go_st rfl rfl ?_
  refine Go_st rfl rfl ?_
  refine Go_st rfl rfl ?_
  refine Go_st rfl rfl ?_
  refine Go_st rfl rfl ?_
  refine Go_st rfl rfl ?_
  refine Go_st rfl rfl ?_
  refine Go_st rfl rfl ?_
  refine Go_st rfl rfl ?_
  refine Go_ifF (by decide +kernel) ?_
  refine Go_st rfl rfl ?_
  refine Go_st rfl rfl ?_
  refine Go_st rfl rfl ?_
  refine Go_st rfl rfl ?_
  refine Go_st rfl rfl ?_
  refine Go_st rfl rfl ?_
  refine Go_st rfl rfl ?_
  refine Go_st rfl rfl ?_
  refine Go_st rfl rfl ?_
  refine Go_st rfl rfl ?_
  refine Go_ifF (by decide +kernel) ?_
  refine Go_st rfl rfl ?_
  refine Go_st rfl rfl ?_
  refine Go_st rfl rfl ?_
  refine Go_st rfl rfl ?_
  refine Go_st rfl rfl ?_
  refine Go_st rfl rfl ?_
  refine Go_st rfl rfl ?_
  refine Go_st rfl rfl ?_
  refine Go_st rfl rfl ?_
  refine Go_st rfl rfl ?_
  refine Go_ifT (by decide +kernel) ?_
  exact Go_ret rfl ⟨rfl, rfl⟩
noncomputable def hp0 : pm_H := [.inr (8, [.ref 1, .ref 3, .ref 15, .ref 24, .ref 52, .ref 53, .ref 62, .ref 64, .ref 70, .ref 72, .ref 75, .ref 76]), .inr (6, [.ref 2, .int 0]), .inl (1, 500, .inl (fun _ => 0)), .inr (2, [.ref 4, .int 0, .int (-1), .ref 1, .ref 13, .int 0, .int 0, .int 0, .int 0, .int 0]), .inr (5, [.int 0, .int 0, .int 0, .int 0, .int 0, .int 0, .int 0, .ref 5, .ref 6, .ref 7, .ref 8, .ref 9, .ref 10, .ref 11, .ref 12]), .inl (0, 8, .inl (fun _ => 0)), .inl (0, 8, .inl (fun _ => 0)), .inl (0, 8, .inl (fun _ => 0)), .inl (0, 8, .inl (fun _ => 0)), .inl (0, 8, .inl (fun _ => 0)), .inl (0, 20, .inl (fun _ => 0)), .inl (0, 20, .inl (fun _ => 0)), .inl (2, 20, .inl (fun _ => 0)), .inr (0, [.ref 14, .int 0]), .inl (0, 10, .inl (fun _ => 0)), .inr (5, [.int 0, .int 0, .int 0, .int 0, .int 0, .int 0, .int 0, .ref 16, .ref 17, .ref 18, .ref 19, .ref 20, .ref 21, .ref 22, .ref 23]), .inl (0, 8, .inl (fun _ => 0)), .inl (0, 8, .inl (fun _ => 0)), .inl (0, 8, .inl (fun _ => 0)), .inl (0, 8, .inl (fun _ => 0)), .inl (0, 8, .inl (fun _ => 0)), .inl (0, 20, .inl (fun _ => 0)), .inl (0, 20, .inl (fun _ => 0)), .inl (2, 20, .inl (fun _ => 0)), .inl (4, 3, .inr (.inr (.inr (.inr (va_up (va_up (va_up (fun _ => none) 0 (some 25)) 1 (some 34)) 2 (some 43)))))), .inr (5, [.int 0, .int 0, .int 0, .int 0, .int 0, .int 0, .int 0, .ref 26, .ref 27, .ref 28, .ref 29, .ref 30, .ref 31, .ref 32, .ref 33]), .inl (0, 8, .inl (fun _ => 0)), .inl (0, 8, .inl (fun _ => 0)), .inl (0, 8, .inl (fun _ => 0)), .inl (0, 8, .inl (fun _ => 0)), .inl (0, 8, .inl (fun _ => 0)), .inl (0, 20, .inl (fun _ => 0)), .inl (0, 20, .inl (fun _ => 0)), .inl (2, 20, .inl (fun _ => 0)), .inr (5, [.int 0, .int 0, .int 0, .int 0, .int 0, .int 0, .int 0, .ref 35, .ref 36, .ref 37, .ref 38, .ref 39, .ref 40, .ref 41, .ref 42]), .inl (0, 8, .inl (fun _ => 0)), .inl (0, 8, .inl (fun _ => 0)), .inl (0, 8, .inl (fun _ => 0)), .inl (0, 8, .inl (fun _ => 0)), .inl (0, 8, .inl (fun _ => 0)), .inl (0, 20, .inl (fun _ => 0)), .inl (0, 20, .inl (fun _ => 0)), .inl (2, 20, .inl (fun _ => 0)), .inr (5, [.int 0, .int 0, .int 0, .int 0, .int 0, .int 0, .int 0, .ref 44, .ref 45, .ref 46, .ref 47, .ref 48, .ref 49, .ref 50, .ref 51]), .inl (0, 8, .inl (fun _ => 0)), .inl (0, 8, .inl (fun _ => 0)), .inl (0, 8, .inl (fun _ => 0)), .inl (0, 8, .inl (fun _ => 0)), .inl (0, 8, .inl (fun _ => 0)), .inl (0, 20, .inl (fun _ => 0)), .inl (0, 20, .inl (fun _ => 0)), .inl (2, 20, .inl (fun _ => 0)), .inl (2, 3, .inl (fun _ => 0)), .inl (5, 4, .inr (.inr (.inr (.inr (va_up (va_up (va_up (va_up (fun _ => none) 0 (some 54)) 1 (some 56)) 2 (some 58)) 3 (some 60)))))), .inr (4, [.ref 55, .int 0, .int 0, .int 0]), .inl (3, 60, .inr (.inl (fun _ => 0))), .inr (4, [.ref 57, .int 0, .int 0, .int 0]), .inl (3, 60, .inr (.inl (fun _ => 0))), .inr (4, [.ref 59, .int 0, .int 0, .int 0]), .inl (3, 60, .inr (.inl (fun _ => 0))), .inr (4, [.ref 61, .int 0, .int 0, .int 0]), .inl (3, 60, .inr (.inl (fun _ => 0))), .inr (1, [.ref 63, .int 0, .int 0, .int 0]), .inl (0, 8, .inl (fun _ => 0)), .inr (7, [.ref 65, .ref 66, .ref 67, .ref 68, .ref 69, .int 0, .int 0]), .inl (0, 9, .inl (fun _ => 0)), .inl (0, 9, .inl (fun _ => 0)), .inl (0, 9, .inl (fun _ => 0)), .inl (0, 9, .inl (fun _ => 0)), .inl (0, 9, .inl (fun _ => 0)), .inr (0, [.ref 71, .int 0]), .inl (0, 10, .inl (fun _ => 0)), .inr (3, [.ref 73, .ref 74]), .inl (0, 256, .inl (fun _ => 0)), .inl (0, 256, .inl (fun _ => 0)), .inl (0, 8, .inl (fun _ => 0)), .inl (0, 64, .inl (fun _ => 0)), .inr (9, [.int 0, .ref 78, .ref 79, .ref 80, .ref 81, .ref 82, .int 0, .int 0, .int 0, .int 0, .int 0, .long 0, .int 0, .int 0, .int 0, .int (-1), .ref 83, .ref 84, .ref 85, .ref 86, .ref 87, .ref 88, .int 0, .int 0, .ref 89, .ref 90, .ref 91, .int 0, .ref 92, .ref 93, .ref 94, .ref 95, .ref 96, .ref 97, .ref 98, .int 0, .int 0, .ref 99, .ref 100, .int 0, .ref 101, .int 0, .int 0, .int 0, .ref 102]), .inl (0, 4, .inl (upd (upd (upd (upd (fun _ => 0) 0 (-1)) 1 (-1)) 2 (-1)) 3 (-1))), .inl (0, 4, .inl (fun _ => 0)), .inl (3, 240, .inr (.inl (fun _ => 0))), .inl (3, 60, .inr (.inl (fun _ => 0))), .inl (1, 500, .inl (fun _ => 0)), .inl (0, 5, .inl (fun _ => 0)), .inl (0, 30, .inl (fun _ => 0)), .inl (0, 80, .inl (fun _ => 0)), .inl (0, 80, .inl (fun _ => 0)), .inl (0, 300, .inl (fun _ => 0)), .inl (2, 3, .inl (fun _ => 0)), .inl (0, 8, .inl (fun _ => 0)), .inl (0, 10, .inl (fun _ => 0)), .inl (0, 8, .inl (fun _ => 0)), .inl (0, 9, .inl (fun _ => 0)), .inl (0, 9, .inl (fun _ => 0)), .inl (0, 9, .inl (fun _ => 0)), .inl (0, 8, .inl (fun _ => 0)), .inl (0, 18, .inl (fun _ => 0)), .inl (0, 8, .inl (fun _ => 0)), .inl (0, 9, .inl (fun _ => 0)), .inl (0, 5, .inl (fun _ => 0)), .inl (0, 6, .inl (fun _ => 0)), .inl (0, 10, .inl (fun _ => 0)), .inl (0, 72, .inl (fun _ => 0))]
end
section
/-! the law's invariant (written by gen_t20.py) -/
noncomputable def CF : List Nat := [20, 41, 62, 83, 104]
noncomputable def IVh (h : pm_H) : Prop := HH h ∧ (∀ i ∈ CF, w0.1.2.1 i h) ∧ RV h
theorem fact_fr {M : List Rng} {h h' : pm_H} {i : Nat} (hM : M.all (fun r => rg_dis (sp0 i) r.1 r.2.1 r.2.2) = true) (hh : HH h) (hh' : HH h') (hf : fr_g M h h') (hi : w0.1.2.1 i h) : w0.1.2.1 i h' := by
  refine w0.2 i h h' hh hh' (fun a k hak => hf a k ?_) hi
  cases hb : rg_in M a k with
  | false => rfl
  | true =>
    obtain ⟨r, hr, hc⟩ := List.any_eq_true.mp hb
    simp only [Bool.and_eq_true] at hc
    have h1 := List.all_eq_true.mp hM r hr
    have he := Nat.eq_of_beq_eq_true hc.1
    subst he
    have h2 : rg_in (sp0 i) r.1 k = false := rg_dis_in h1 (Nat.le_of_ble_eq_true hc.2.1) (Nat.le_of_ble_eq_true hc.2.2)
    have h3 : rg_in (sp0 i) r.1 k = true := hak
    rw [h2] at h3
    cases h3
theorem IVh_fr {M : List Rng} {h h' : pm_H} (hM : CF.all (fun i => M.all (fun r => rg_dis (sp0 i) r.1 r.2.1 r.2.2)) = true) (hf : fr_g M h h') (hh' : HH h') (I : IVh h) (V : RV h') : IVh h' :=
  ⟨hh', fun i hi => fact_fr (List.all_eq_true.mp hM i hi) I.1 hh' hf (I.2.1 i hi), V⟩
theorem top_sum {d : Nat} {S : Sum1} (q : sum_g w0 (pm_Rt pm_P d) S) (hm : S.2.2.1 = []) (hp : S.2.2.2.1.all (fun i => CF.contains i || Nat.beq i 125) = true) (hv : S.2.2.2.2.1.all (fun r => !(Nat.beq r.1 84) && (!(Nat.beq r.1 85) && !(Nat.beq r.1 87))) = true) (hk : S.2.2.2.2.2.all (fun C => CF.all (fun i => C.2.2.1.contains i || S.2.2.2.2.1.all (fun r => rg_dis (sp0 i) r.1 r.2.1 r.2.2))) = true) {h : pm_H} {as : List Value} (I : IVh h) (ha : f2 cv_g S.2.1 as) : Sp d S.1 h as (fun h' r => IVh h' ∧ fr_g S.2.2.2.2.1 h h' ∧ ∃ C ∈ S.2.2.2.2.2, mm_g h' C.2.1 ∧ rv_g h' C.2.2.2 r) := by
  refine Sp_mono ?_ (Sp_sum q I.1 ha (by rw [hm]; exact fun _ hq => absurd hq List.not_mem_nil) (fun i hi => ?_))
  · rintro h' r ⟨q1, q2, C, hC, -, q5, q3, q4⟩
    refine ⟨⟨q1, fun i hi => ?_, RV_fr I.1 hv q2 I.2.2⟩, q2, C, hC, q5, q4⟩
    have h1 := List.all_eq_true.mp (List.all_eq_true.mp hk C hC) i hi
    rw [Bool.or_eq_true] at h1
    cases h1 with
    | inl h1 => exact q3 i (by simpa using h1)
    | inr h1 => exact fact_fr h1 I.1 q1 q2 (I.2.1 i hi)
  · have h1 := List.all_eq_true.mp hp i hi
    rw [Bool.or_eq_true] at h1
    cases h1 with
    | inl h1 => exact I.2.1 i (by simpa using h1)
    | inr h1 => rw [Nat.eq_of_beq_eq_true h1]; exact FAg_fact I.1 (I.2.2.2 0 (by omega))
noncomputable def isI (C : Cs) : Bool := match C.2.2.2 with
  | some (.inl (.inl _)) => true
  | some (.inr _) => true
  | _ => false
noncomputable def isL (C : Cs) : Bool := match C.2.2.2 with
  | some (.inl (.inr (.inl _))) => true
  | _ => false
theorem rv_isI {C : Cs} {h : pm_H} {r : Option Value} (hC : isI C = true) (hv : rv_g h C.2.2.2 r) : ∃ x : Int32, r = some (.int x) := by
  unfold isI at hC
  split at hC
  · rename_i c e
    rw [e] at hv
    cases r with
    | none => exact hv.elim
    | some v => cases v with
      | int x => exact ⟨x, rfl⟩
      | _ => exact hv.elim
  · rename_i c e
    rw [e] at hv
    cases r with
    | none => exact hv.elim
    | some v => cases v with
      | int x => exact ⟨x, rfl⟩
      | _ => exact hv.elim
  · cases hC
theorem rv_isL {C : Cs} {h : pm_H} {r : Option Value} (hC : isL C = true) (hv : rv_g h C.2.2.2 r) : ∃ x : Int64, r = some (.long x) := by
  unfold isL at hC
  split at hC
  · rename_i c e
    rw [e] at hv
    cases r with
    | none => exact hv.elim
    | some v => cases v with
      | long x => exact ⟨x, rfl⟩
      | _ => exact hv.elim
  · cases hC
noncomputable def topB (S : Sum1) : Bool := (match S.2.2.1 with | [] => true | _ => false) && (S.2.2.2.1.all (fun i => CF.contains i || Nat.beq i 125) && (S.2.2.2.2.1.all (fun r => !(Nat.beq r.1 84) && (!(Nat.beq r.1 85) && !(Nat.beq r.1 87))) && S.2.2.2.2.2.all (fun C => CF.all (fun i => C.2.2.1.contains i || S.2.2.2.2.1.all (fun r => rg_dis (sp0 i) r.1 r.2.1 r.2.2)))))
theorem topB_m {S : Sum1} (h : topB S = true) : S.2.2.1 = [] := by
  unfold topB at h
  rw [Bool.and_eq_true] at h
  have h1 := h.1
  split at h1
  · assumption
  · cases h1
theorem topB_r {S : Sum1} (h : topB S = true) : S.2.2.2.1.all (fun i => CF.contains i || Nat.beq i 125) = true ∧ S.2.2.2.2.1.all (fun r => !(Nat.beq r.1 84) && (!(Nat.beq r.1 85) && !(Nat.beq r.1 87))) = true ∧ S.2.2.2.2.2.all (fun C => CF.all (fun i => C.2.2.1.contains i || S.2.2.2.2.1.all (fun r => rg_dis (sp0 i) r.1 r.2.1 r.2.2))) = true := by
  unfold topB at h
  rw [Bool.and_eq_true, Bool.and_eq_true, Bool.and_eq_true] at h
  exact h.2
theorem top_all {d : Nat} {S : Sum1} (q : sum_g w0 (pm_Rt pm_P d) S) (hb : topB S = true) {h : pm_H} {as : List Value} (I : IVh h) (ha : f2 cv_g S.2.1 as) : Sp d S.1 h as (fun h' r => IVh h' ∧ fr_g S.2.2.2.2.1 h h' ∧ ∃ C ∈ S.2.2.2.2.2, mm_g h' C.2.1 ∧ rv_g h' C.2.2.2 r) := by
  obtain ⟨b1, b2, b3⟩ := topB_r hb
  exact top_sum q (topB_m hb) b1 b2 b3 I ha
theorem top_int {d : Nat} {S : Sum1} (q : sum_g w0 (pm_Rt pm_P d) S) (hb : topB S = true) (hi : S.2.2.2.2.2.all isI = true) {h : pm_H} {as : List Value} (I : IVh h) (ha : f2 cv_g S.2.1 as) : Sp d S.1 h as (fun h' r => IVh h' ∧ fr_g S.2.2.2.2.1 h h' ∧ ∃ x : Int32, r = some (.int x)) := by
  refine Sp_mono ?_ (top_all q hb I ha)
  rintro h' r ⟨q1, q2, C, hC, -, q3⟩
  exact ⟨q1, q2, rv_isI (List.all_eq_true.mp hi C hC) q3⟩
theorem top_lng {d : Nat} {S : Sum1} (q : sum_g w0 (pm_Rt pm_P d) S) (hb : topB S = true) (hi : S.2.2.2.2.2.all isL = true) {h : pm_H} {as : List Value} (I : IVh h) (ha : f2 cv_g S.2.1 as) : Sp d S.1 h as (fun h' r => IVh h' ∧ fr_g S.2.2.2.2.1 h h' ∧ ∃ x : Int64, r = some (.long x)) := by
  refine Sp_mono ?_ (top_all q hb I ha)
  rintro h' r ⟨q1, q2, C, hC, -, q3⟩
  exact ⟨q1, q2, rv_isL (List.all_eq_true.mp hi C hC) q3⟩
theorem top_TQ {d y : Nat} {h : pm_H} {as : List Value} (hd : Nat.ble d 100 = true) (I : IVh h) (k : Sp d y h as (TQ h)) : Sp 100 y h as (fun h' r => IVh h' ∧ fr_g TM h h' ∧ ∃ x : Int32, r = some (.int x)) := by
  refine Sp_le (Nat.le_of_ble_eq_true hd) (Sp_mono ?_ k)
  rintro h' r ⟨q1, q2, q3⟩
  exact ⟨IVh_fr (M := TM) (by decide +kernel) q2 q1 I (RV_fr I.1 rfl q2 I.2.2), q2, q3⟩
theorem aI (x : Int32) : cv_g (cI (-2147483648) 2147483647) (.int x) := ⟨ai_lo x, ai_hi x⟩
theorem aL (x : Int64) : cv_g (cL (-9223372036854775808) 9223372036854775807) (.long x) := ⟨al_lo x, al_hi x⟩
theorem hs_f2 : ∀ {hs : List AE} {h : pm_H}, f2 ae_g hs h → hs_g hs h
  | [], [], _ => ⟨rfl, fun a c x h1 _ => by cases h1⟩
  | [], _ :: _, h => h.elim
  | _ :: _, [], h => h.elim
  | c0 :: hs, x0 :: h, hf => by
    have ih := hs_f2 hf.2
    refine ⟨congrArg (· + 1) ih.1, fun a c x h1 h2 => ?_⟩
    cases a with
    | zero => cases h1; cases h2; exact hf.1
    | succ a => exact ih.2 a c x h1 h2
theorem z_arr {p : List (Int × Int)} (hp : p.all (fun q => decide (q.1 ≤ 0) && decide (0 ≤ q.2)) = true) : ∀ (j : Nat) (lo hi : Int), pat_at p j = some (lo, hi) → lo ≤ ((fun _ : Nat => (0 : Int32)) j).toInt ∧ ((fun _ : Nat => (0 : Int32)) j).toInt ≤ hi := by
  intro j lo hi hj
  have h1 := List.all_eq_true.mp hp (lo, hi) (List.mem_of_getElem? hj)
  simp only [Bool.and_eq_true, decide_eq_true_eq] at h1
  exact h1
theorem z_wid : ∀ (j : Nat) (lo hi : Int), pat_at [((-1 : Int), (3 : Int))] j = some (lo, hi) → lo ≤ (upd (upd (upd (upd (fun _ => 0) 0 (-1)) 1 (-1)) 2 (-1)) 3 (-1) j).toInt ∧ (upd (upd (upd (upd (fun _ => 0) 0 (-1)) 1 (-1)) 2 (-1)) 3 (-1) j).toInt ≤ hi := by
  intro j lo hi hj
  have h1 : (lo, hi) = (-1, 3) := List.mem_singleton.mp (List.mem_of_getElem? hj)
  cases h1
  unfold upd
  have e1 : (-1 : Int32).toInt = -1 := rfl
  have e0 : (0 : Int32).toInt = 0 := rfl
  split
  · omega
  · split
    · omega
    · split
      · omega
      · split
        · omega
        · show (-1 : Int) ≤ (0 : Int32).toInt ∧ (0 : Int32).toInt ≤ 3; omega
noncomputable def af_b (c : AF) (v : Value) : Bool := match c, v with
  | .inl (lo, hi), .int x => decide (lo ≤ x.toInt) && decide (x.toInt ≤ hi)
  | .inr (.inl ()), .long _ => true
  | .inr (.inr (.inl a)), .ref a' => Nat.beq a' a
  | .inr (.inr (.inr ())), .null => true
  | _, _ => false
theorem af_b_ok {c : AF} {v : Value} (h : af_b c v = true) : af_g c v := by
  unfold af_b at h
  split at h
  · simp only [Bool.and_eq_true, decide_eq_true_eq] at h; exact h
  · trivial
  · exact Nat.eq_of_beq_eq_true h
  · trivial
  · cases h
theorem o_chk : ∀ {fs : List AF} {vs : List Value}, (fs.zip vs).all (fun q => af_b q.1 q.2) = true → ∀ (k : Nat) (c : AF) (v : Value), fs[k]? = some c → vs[k]? = some v → af_g c v
  | [], _, _, k, c, v, h1, _ => by cases h1
  | _ :: _, [], _, k, c, v, _, h2 => by cases h2
  | f :: fs, u :: vs, h, k, c, v, h1, h2 => by
    rw [List.zip_cons_cons, List.all_cons, Bool.and_eq_true] at h
    cases k with
    | zero => cases h1; cases h2; exact af_b_ok h.1
    | succ k => exact o_chk h.2 k c v h1 h2
theorem HH_hp0 : HH hp0 := by
  refine hs_f2 ?_
  refine And.intro (show ae_g (.inr (.inr (.inr (8, [.inr (.inr (.inl 1)), .inr (.inr (.inl 3)), .inr (.inr (.inl 15)), .inr (.inr (.inl 24)), .inr (.inr (.inl 52)), .inr (.inr (.inl 53)), .inr (.inr (.inl 62)), .inr (.inr (.inl 64)), .inr (.inr (.inl 70)), .inr (.inr (.inl 72)), .inr (.inr (.inl 75)), .inr (.inr (.inl 76))])))) (.inr (8, [.ref 1, .ref 3, .ref 15, .ref 24, .ref 52, .ref 53, .ref 62, .ref 64, .ref 70, .ref 72, .ref 75, .ref 76])) from ⟨rfl, rfl, o_chk (by decide)⟩) ?_
  refine And.intro (show ae_g (.inr (.inr (.inr (6, [.inr (.inr (.inl 2)), .inl (0, 500)])))) (.inr (6, [.ref 2, .int 0])) from ⟨rfl, rfl, o_chk (by decide)⟩) ?_
  refine And.intro (show ae_g (.inl (1, 500, [((-128), 127)])) (.inl (1, 500, .inl (fun _ => 0))) from ⟨rfl, rfl, z_arr (by decide)⟩) ?_
  refine And.intro (show ae_g (.inr (.inr (.inr (2, [.inr (.inr (.inl 4)), .inl (0, 3), .inl ((-1), 500), .inr (.inr (.inl 1)), .inr (.inr (.inl 13)), .inl (0, 4), .inl (0, 500), .inl (0, 500), .inl ((-2147483648), 2147483647), .inl (0, 99)])))) (.inr (2, [.ref 4, .int 0, .int (-1), .ref 1, .ref 13, .int 0, .int 0, .int 0, .int 0, .int 0])) from ⟨rfl, rfl, o_chk (by decide)⟩) ?_
  refine And.intro (show ae_g (.inr (.inr (.inr (5, [.inl (0, 8), .inl (0, 3), .inl (0, 10), .inl ((-2147483648), 2147483647), .inl (0, 8), .inl (0, 8), .inl (0, 20), .inr (.inr (.inl 5)), .inr (.inr (.inl 6)), .inr (.inr (.inl 7)), .inr (.inr (.inl 8)), .inr (.inr (.inl 9)), .inr (.inr (.inl 10)), .inr (.inr (.inl 11)), .inr (.inr (.inl 12))])))) (.inr (5, [.int 0, .int 0, .int 0, .int 0, .int 0, .int 0, .int 0, .ref 5, .ref 6, .ref 7, .ref 8, .ref 9, .ref 10, .ref 11, .ref 12])) from ⟨rfl, rfl, o_chk (by decide)⟩) ?_
  refine And.intro (show ae_g (.inl (0, 8, [(0, 8)])) (.inl (0, 8, .inl (fun _ => 0))) from ⟨rfl, rfl, z_arr (by decide)⟩) ?_
  refine And.intro (show ae_g (.inl (0, 8, [(0, 8)])) (.inl (0, 8, .inl (fun _ => 0))) from ⟨rfl, rfl, z_arr (by decide)⟩) ?_
  refine And.intro (show ae_g (.inl (0, 8, [(0, 99)])) (.inl (0, 8, .inl (fun _ => 0))) from ⟨rfl, rfl, z_arr (by decide)⟩) ?_
  refine And.intro (show ae_g (.inl (0, 8, [(0, 9)])) (.inl (0, 8, .inl (fun _ => 0))) from ⟨rfl, rfl, z_arr (by decide)⟩) ?_
  refine And.intro (show ae_g (.inl (0, 8, [(0, 9)])) (.inl (0, 8, .inl (fun _ => 0))) from ⟨rfl, rfl, z_arr (by decide)⟩) ?_
  refine And.intro (show ae_g (.inl (0, 20, [(0, 7)])) (.inl (0, 20, .inl (fun _ => 0))) from ⟨rfl, rfl, z_arr (by decide)⟩) ?_
  refine And.intro (show ae_g (.inl (0, 20, [(0, 8)])) (.inl (0, 20, .inl (fun _ => 0))) from ⟨rfl, rfl, z_arr (by decide)⟩) ?_
  refine And.intro (show ae_g (.inl (2, 20, [(0, 1)])) (.inl (2, 20, .inl (fun _ => 0))) from ⟨rfl, rfl, z_arr (by decide)⟩) ?_
  refine And.intro (show ae_g (.inr (.inr (.inr (0, [.inr (.inr (.inl 14)), .inl (0, 9)])))) (.inr (0, [.ref 14, .int 0])) from ⟨rfl, rfl, o_chk (by decide)⟩) ?_
  refine And.intro (show ae_g (.inl (0, 10, [(0, 511)])) (.inl (0, 10, .inl (fun _ => 0))) from ⟨rfl, rfl, z_arr (by decide)⟩) ?_
  refine And.intro (show ae_g (.inr (.inr (.inr (5, [.inl (0, 8), .inl (0, 3), .inl (0, 10), .inl ((-2147483648), 2147483647), .inl (0, 8), .inl (0, 8), .inl (0, 20), .inr (.inr (.inl 16)), .inr (.inr (.inl 17)), .inr (.inr (.inl 18)), .inr (.inr (.inl 19)), .inr (.inr (.inl 20)), .inr (.inr (.inl 21)), .inr (.inr (.inl 22)), .inr (.inr (.inl 23))])))) (.inr (5, [.int 0, .int 0, .int 0, .int 0, .int 0, .int 0, .int 0, .ref 16, .ref 17, .ref 18, .ref 19, .ref 20, .ref 21, .ref 22, .ref 23])) from ⟨rfl, rfl, o_chk (by decide)⟩) ?_
  refine And.intro (show ae_g (.inl (0, 8, [(0, 8)])) (.inl (0, 8, .inl (fun _ => 0))) from ⟨rfl, rfl, z_arr (by decide)⟩) ?_
  refine And.intro (show ae_g (.inl (0, 8, [(0, 8)])) (.inl (0, 8, .inl (fun _ => 0))) from ⟨rfl, rfl, z_arr (by decide)⟩) ?_
  refine And.intro (show ae_g (.inl (0, 8, [(0, 99)])) (.inl (0, 8, .inl (fun _ => 0))) from ⟨rfl, rfl, z_arr (by decide)⟩) ?_
  refine And.intro (show ae_g (.inl (0, 8, [(0, 9)])) (.inl (0, 8, .inl (fun _ => 0))) from ⟨rfl, rfl, z_arr (by decide)⟩) ?_
  refine And.intro (show ae_g (.inl (0, 8, [(0, 9)])) (.inl (0, 8, .inl (fun _ => 0))) from ⟨rfl, rfl, z_arr (by decide)⟩) ?_
  refine And.intro (show ae_g (.inl (0, 20, [(0, 7)])) (.inl (0, 20, .inl (fun _ => 0))) from ⟨rfl, rfl, z_arr (by decide)⟩) ?_
  refine And.intro (show ae_g (.inl (0, 20, [(0, 8)])) (.inl (0, 20, .inl (fun _ => 0))) from ⟨rfl, rfl, z_arr (by decide)⟩) ?_
  refine And.intro (show ae_g (.inl (2, 20, [(0, 1)])) (.inl (2, 20, .inl (fun _ => 0))) from ⟨rfl, rfl, z_arr (by decide)⟩) ?_
  refine And.intro (show ae_g (.inr (.inr (.inl (4, [some 25, some 34, some 43])))) (.inl (4, 3, .inr (.inr (.inr (.inr (va_up (va_up (va_up (fun _ => none) 0 (some 25)) 1 (some 34)) 2 (some 43))))))) from ⟨rfl, rfl, fun j y hj => by match j, hj with | 0, hj => cases hj; rfl | 1, hj => cases hj; rfl | 2, hj => cases hj; rfl | j + 3, hj => cases hj⟩) ?_
  refine And.intro (show ae_g (.inr (.inr (.inr (5, [.inl (0, 8), .inl (0, 3), .inl (0, 10), .inl ((-2147483648), 2147483647), .inl (0, 8), .inl (0, 8), .inl (0, 20), .inr (.inr (.inl 26)), .inr (.inr (.inl 27)), .inr (.inr (.inl 28)), .inr (.inr (.inl 29)), .inr (.inr (.inl 30)), .inr (.inr (.inl 31)), .inr (.inr (.inl 32)), .inr (.inr (.inl 33))])))) (.inr (5, [.int 0, .int 0, .int 0, .int 0, .int 0, .int 0, .int 0, .ref 26, .ref 27, .ref 28, .ref 29, .ref 30, .ref 31, .ref 32, .ref 33])) from ⟨rfl, rfl, o_chk (by decide)⟩) ?_
  refine And.intro (show ae_g (.inl (0, 8, [(0, 8)])) (.inl (0, 8, .inl (fun _ => 0))) from ⟨rfl, rfl, z_arr (by decide)⟩) ?_
  refine And.intro (show ae_g (.inl (0, 8, [(0, 8)])) (.inl (0, 8, .inl (fun _ => 0))) from ⟨rfl, rfl, z_arr (by decide)⟩) ?_
  refine And.intro (show ae_g (.inl (0, 8, [(0, 99)])) (.inl (0, 8, .inl (fun _ => 0))) from ⟨rfl, rfl, z_arr (by decide)⟩) ?_
  refine And.intro (show ae_g (.inl (0, 8, [(0, 9)])) (.inl (0, 8, .inl (fun _ => 0))) from ⟨rfl, rfl, z_arr (by decide)⟩) ?_
  refine And.intro (show ae_g (.inl (0, 8, [(0, 9)])) (.inl (0, 8, .inl (fun _ => 0))) from ⟨rfl, rfl, z_arr (by decide)⟩) ?_
  refine And.intro (show ae_g (.inl (0, 20, [(0, 7)])) (.inl (0, 20, .inl (fun _ => 0))) from ⟨rfl, rfl, z_arr (by decide)⟩) ?_
  refine And.intro (show ae_g (.inl (0, 20, [(0, 8)])) (.inl (0, 20, .inl (fun _ => 0))) from ⟨rfl, rfl, z_arr (by decide)⟩) ?_
  refine And.intro (show ae_g (.inl (2, 20, [(0, 1)])) (.inl (2, 20, .inl (fun _ => 0))) from ⟨rfl, rfl, z_arr (by decide)⟩) ?_
  refine And.intro (show ae_g (.inr (.inr (.inr (5, [.inl (0, 8), .inl (0, 3), .inl (0, 10), .inl ((-2147483648), 2147483647), .inl (0, 8), .inl (0, 8), .inl (0, 20), .inr (.inr (.inl 35)), .inr (.inr (.inl 36)), .inr (.inr (.inl 37)), .inr (.inr (.inl 38)), .inr (.inr (.inl 39)), .inr (.inr (.inl 40)), .inr (.inr (.inl 41)), .inr (.inr (.inl 42))])))) (.inr (5, [.int 0, .int 0, .int 0, .int 0, .int 0, .int 0, .int 0, .ref 35, .ref 36, .ref 37, .ref 38, .ref 39, .ref 40, .ref 41, .ref 42])) from ⟨rfl, rfl, o_chk (by decide)⟩) ?_
  refine And.intro (show ae_g (.inl (0, 8, [(0, 8)])) (.inl (0, 8, .inl (fun _ => 0))) from ⟨rfl, rfl, z_arr (by decide)⟩) ?_
  refine And.intro (show ae_g (.inl (0, 8, [(0, 8)])) (.inl (0, 8, .inl (fun _ => 0))) from ⟨rfl, rfl, z_arr (by decide)⟩) ?_
  refine And.intro (show ae_g (.inl (0, 8, [(0, 99)])) (.inl (0, 8, .inl (fun _ => 0))) from ⟨rfl, rfl, z_arr (by decide)⟩) ?_
  refine And.intro (show ae_g (.inl (0, 8, [(0, 9)])) (.inl (0, 8, .inl (fun _ => 0))) from ⟨rfl, rfl, z_arr (by decide)⟩) ?_
  refine And.intro (show ae_g (.inl (0, 8, [(0, 9)])) (.inl (0, 8, .inl (fun _ => 0))) from ⟨rfl, rfl, z_arr (by decide)⟩) ?_
  refine And.intro (show ae_g (.inl (0, 20, [(0, 7)])) (.inl (0, 20, .inl (fun _ => 0))) from ⟨rfl, rfl, z_arr (by decide)⟩) ?_
  refine And.intro (show ae_g (.inl (0, 20, [(0, 8)])) (.inl (0, 20, .inl (fun _ => 0))) from ⟨rfl, rfl, z_arr (by decide)⟩) ?_
  refine And.intro (show ae_g (.inl (2, 20, [(0, 1)])) (.inl (2, 20, .inl (fun _ => 0))) from ⟨rfl, rfl, z_arr (by decide)⟩) ?_
  refine And.intro (show ae_g (.inr (.inr (.inr (5, [.inl (0, 8), .inl (0, 3), .inl (0, 10), .inl ((-2147483648), 2147483647), .inl (0, 8), .inl (0, 8), .inl (0, 20), .inr (.inr (.inl 44)), .inr (.inr (.inl 45)), .inr (.inr (.inl 46)), .inr (.inr (.inl 47)), .inr (.inr (.inl 48)), .inr (.inr (.inl 49)), .inr (.inr (.inl 50)), .inr (.inr (.inl 51))])))) (.inr (5, [.int 0, .int 0, .int 0, .int 0, .int 0, .int 0, .int 0, .ref 44, .ref 45, .ref 46, .ref 47, .ref 48, .ref 49, .ref 50, .ref 51])) from ⟨rfl, rfl, o_chk (by decide)⟩) ?_
  refine And.intro (show ae_g (.inl (0, 8, [(0, 8)])) (.inl (0, 8, .inl (fun _ => 0))) from ⟨rfl, rfl, z_arr (by decide)⟩) ?_
  refine And.intro (show ae_g (.inl (0, 8, [(0, 8)])) (.inl (0, 8, .inl (fun _ => 0))) from ⟨rfl, rfl, z_arr (by decide)⟩) ?_
  refine And.intro (show ae_g (.inl (0, 8, [(0, 99)])) (.inl (0, 8, .inl (fun _ => 0))) from ⟨rfl, rfl, z_arr (by decide)⟩) ?_
  refine And.intro (show ae_g (.inl (0, 8, [(0, 9)])) (.inl (0, 8, .inl (fun _ => 0))) from ⟨rfl, rfl, z_arr (by decide)⟩) ?_
  refine And.intro (show ae_g (.inl (0, 8, [(0, 9)])) (.inl (0, 8, .inl (fun _ => 0))) from ⟨rfl, rfl, z_arr (by decide)⟩) ?_
  refine And.intro (show ae_g (.inl (0, 20, [(0, 7)])) (.inl (0, 20, .inl (fun _ => 0))) from ⟨rfl, rfl, z_arr (by decide)⟩) ?_
  refine And.intro (show ae_g (.inl (0, 20, [(0, 8)])) (.inl (0, 20, .inl (fun _ => 0))) from ⟨rfl, rfl, z_arr (by decide)⟩) ?_
  refine And.intro (show ae_g (.inl (2, 20, [(0, 1)])) (.inl (2, 20, .inl (fun _ => 0))) from ⟨rfl, rfl, z_arr (by decide)⟩) ?_
  refine And.intro (show ae_g (.inl (2, 3, [(0, 1)])) (.inl (2, 3, .inl (fun _ => 0))) from ⟨rfl, rfl, z_arr (by decide)⟩) ?_
  refine And.intro (show ae_g (.inr (.inr (.inl (5, [some 54, some 56, some 58, some 60])))) (.inl (5, 4, .inr (.inr (.inr (.inr (va_up (va_up (va_up (va_up (fun _ => none) 0 (some 54)) 1 (some 56)) 2 (some 58)) 3 (some 60))))))) from ⟨rfl, rfl, fun j y hj => by match j, hj with | 0, hj => cases hj; rfl | 1, hj => cases hj; rfl | 2, hj => cases hj; rfl | 3, hj => cases hj; rfl | j + 4, hj => cases hj⟩) ?_
  refine And.intro (show ae_g (.inr (.inr (.inr (4, [.inr (.inr (.inl 55)), .inl (0, 1), .inl (0, 3), .inl (0, 60)])))) (.inr (4, [.ref 55, .int 0, .int 0, .int 0])) from ⟨rfl, rfl, o_chk (by decide)⟩) ?_
  refine And.intro (show ae_g (.inr (.inl 60)) (.inl (3, 60, .inr (.inl (fun _ => 0)))) from ⟨rfl, rfl⟩) ?_
  refine And.intro (show ae_g (.inr (.inr (.inr (4, [.inr (.inr (.inl 57)), .inl (0, 1), .inl (0, 3), .inl (0, 60)])))) (.inr (4, [.ref 57, .int 0, .int 0, .int 0])) from ⟨rfl, rfl, o_chk (by decide)⟩) ?_
  refine And.intro (show ae_g (.inr (.inl 60)) (.inl (3, 60, .inr (.inl (fun _ => 0)))) from ⟨rfl, rfl⟩) ?_
  refine And.intro (show ae_g (.inr (.inr (.inr (4, [.inr (.inr (.inl 59)), .inl (0, 1), .inl (0, 3), .inl (0, 60)])))) (.inr (4, [.ref 59, .int 0, .int 0, .int 0])) from ⟨rfl, rfl, o_chk (by decide)⟩) ?_
  refine And.intro (show ae_g (.inr (.inl 60)) (.inl (3, 60, .inr (.inl (fun _ => 0)))) from ⟨rfl, rfl⟩) ?_
  refine And.intro (show ae_g (.inr (.inr (.inr (4, [.inr (.inr (.inl 61)), .inl (0, 1), .inl (0, 3), .inl (0, 60)])))) (.inr (4, [.ref 61, .int 0, .int 0, .int 0])) from ⟨rfl, rfl, o_chk (by decide)⟩) ?_
  refine And.intro (show ae_g (.inr (.inl 60)) (.inl (3, 60, .inr (.inl (fun _ => 0)))) from ⟨rfl, rfl⟩) ?_
  refine And.intro (show ae_g (.inr (.inr (.inr (1, [.inr (.inr (.inl 63)), .inl (0, 511), .inl (0, 255), .inl ((-2147483648), 2147483647)])))) (.inr (1, [.ref 63, .int 0, .int 0, .int 0])) from ⟨rfl, rfl, o_chk (by decide)⟩) ?_
  refine And.intro (show ae_g (.inl (0, 8, [(0, 9)])) (.inl (0, 8, .inl (fun _ => 0))) from ⟨rfl, rfl, z_arr (by decide)⟩) ?_
  refine And.intro (show ae_g (.inr (.inr (.inr (7, [.inr (.inr (.inl 65)), .inr (.inr (.inl 66)), .inr (.inr (.inl 67)), .inr (.inr (.inl 68)), .inr (.inr (.inl 69)), .inl (0, 9), .inl (0, 9)])))) (.inr (7, [.ref 65, .ref 66, .ref 67, .ref 68, .ref 69, .int 0, .int 0])) from ⟨rfl, rfl, o_chk (by decide)⟩) ?_
  refine And.intro (show ae_g (.inl (0, 9, [(0, 8)])) (.inl (0, 9, .inl (fun _ => 0))) from ⟨rfl, rfl, z_arr (by decide)⟩) ?_
  refine And.intro (show ae_g (.inl (0, 9, [(0, 8)])) (.inl (0, 9, .inl (fun _ => 0))) from ⟨rfl, rfl, z_arr (by decide)⟩) ?_
  refine And.intro (show ae_g (.inl (0, 9, [((-2147483648), 2147483647)])) (.inl (0, 9, .inl (fun _ => 0))) from ⟨rfl, rfl, z_arr (by decide)⟩) ?_
  refine And.intro (show ae_g (.inl (0, 9, [(0, 511)])) (.inl (0, 9, .inl (fun _ => 0))) from ⟨rfl, rfl, z_arr (by decide)⟩) ?_
  refine And.intro (show ae_g (.inl (0, 9, [(0, 8)])) (.inl (0, 9, .inl (fun _ => 0))) from ⟨rfl, rfl, z_arr (by decide)⟩) ?_
  refine And.intro (show ae_g (.inr (.inr (.inr (0, [.inr (.inr (.inl 71)), .inl (0, 9)])))) (.inr (0, [.ref 71, .int 0])) from ⟨rfl, rfl, o_chk (by decide)⟩) ?_
  refine And.intro (show ae_g (.inl (0, 10, [(0, 511)])) (.inl (0, 10, .inl (fun _ => 0))) from ⟨rfl, rfl, z_arr (by decide)⟩) ?_
  refine And.intro (show ae_g (.inr (.inr (.inr (3, [.inr (.inr (.inl 73)), .inr (.inr (.inl 74))])))) (.inr (3, [.ref 73, .ref 74])) from ⟨rfl, rfl, o_chk (by decide)⟩) ?_
  refine And.intro (show ae_g (.inl (0, 256, [(0, 511)])) (.inl (0, 256, .inl (fun _ => 0))) from ⟨rfl, rfl, z_arr (by decide)⟩) ?_
  refine And.intro (show ae_g (.inl (0, 256, [((-2147483648), 2147483647)])) (.inl (0, 256, .inl (fun _ => 0))) from ⟨rfl, rfl, z_arr (by decide)⟩) ?_
  refine And.intro (show ae_g (.inl (0, 8, [(0, 9)])) (.inl (0, 8, .inl (fun _ => 0))) from ⟨rfl, rfl, z_arr (by decide)⟩) ?_
  refine And.intro (show ae_g (.inl (0, 64, [(0, 9)])) (.inl (0, 64, .inl (fun _ => 0))) from ⟨rfl, rfl, z_arr (by decide)⟩) ?_
  refine And.intro (show ae_g (.inr (.inr (.inr (9, [.inl (0, 0), .inr (.inr (.inl 78)), .inr (.inr (.inl 79)), .inr (.inr (.inl 80)), .inr (.inr (.inl 81)), .inr (.inr (.inl 82)), .inl (0, 500), .inl (0, 500), .inl (0, 4), .inl (0, 500), .inl ((-2147483648), 2147483647), .inr (.inl ()), .inl (0, 3), .inl ((-1), 500), .inl (0, 3), .inl ((-1), 500), .inr (.inr (.inl 83)), .inr (.inr (.inl 84)), .inr (.inr (.inl 85)), .inr (.inr (.inl 86)), .inr (.inr (.inl 87)), .inr (.inr (.inl 88)), .inl (0, 3), .inl ((-2147483648), 2147483647), .inr (.inr (.inl 89)), .inr (.inr (.inl 90)), .inr (.inr (.inl 91)), .inl (0, 255), .inr (.inr (.inl 92)), .inr (.inr (.inl 93)), .inr (.inr (.inl 94)), .inr (.inr (.inl 95)), .inr (.inr (.inl 96)), .inr (.inr (.inl 97)), .inr (.inr (.inl 98)), .inl ((-2147483648), 2147483647), .inl (0, 9), .inr (.inr (.inl 99)), .inr (.inr (.inl 100)), .inl (0, 6), .inr (.inr (.inl 101)), .inl (0, 255), .inl ((-1), 7), .inl ((-2147483648), 2147483647), .inr (.inr (.inl 102))])))) (.inr (9, [.int 0, .ref 78, .ref 79, .ref 80, .ref 81, .ref 82, .int 0, .int 0, .int 0, .int 0, .int 0, .long 0, .int 0, .int 0, .int 0, .int (-1), .ref 83, .ref 84, .ref 85, .ref 86, .ref 87, .ref 88, .int 0, .int 0, .ref 89, .ref 90, .ref 91, .int 0, .ref 92, .ref 93, .ref 94, .ref 95, .ref 96, .ref 97, .ref 98, .int 0, .int 0, .ref 99, .ref 100, .int 0, .ref 101, .int 0, .int 0, .int 0, .ref 102])) from ⟨rfl, rfl, o_chk (by decide)⟩) ?_
  refine And.intro (show ae_g (.inl (0, 4, [((-1), 3)])) (.inl (0, 4, .inl (upd (upd (upd (upd (fun _ => 0) 0 (-1)) 1 (-1)) 2 (-1)) 3 (-1)))) from ⟨rfl, rfl, z_wid⟩) ?_
  refine And.intro (show ae_g (.inl (0, 4, [(0, 60)])) (.inl (0, 4, .inl (fun _ => 0))) from ⟨rfl, rfl, z_arr (by decide)⟩) ?_
  refine And.intro (show ae_g (.inr (.inl 240)) (.inl (3, 240, .inr (.inl (fun _ => 0)))) from ⟨rfl, rfl⟩) ?_
  refine And.intro (show ae_g (.inr (.inl 60)) (.inl (3, 60, .inr (.inl (fun _ => 0)))) from ⟨rfl, rfl⟩) ?_
  refine And.intro (show ae_g (.inl (1, 500, [((-128), 127)])) (.inl (1, 500, .inl (fun _ => 0))) from ⟨rfl, rfl, z_arr (by decide)⟩) ?_
  refine And.intro (show ae_g (.inl (0, 5, [((-2147483648), 2147483647)])) (.inl (0, 5, .inl (fun _ => 0))) from ⟨rfl, rfl, z_arr (by decide)⟩) ?_
  refine And.intro (show ae_g (.inl (0, 30, [(0, 8), (0, 3), (0, 10), (0, 8), (0, 8), (0, 20)])) (.inl (0, 30, .inl (fun _ => 0))) from ⟨rfl, rfl, z_arr (by decide)⟩) ?_
  refine And.intro (show ae_g (.inl (0, 80, [(0, 8), (0, 99)])) (.inl (0, 80, .inl (fun _ => 0))) from ⟨rfl, rfl, z_arr (by decide)⟩) ?_
  refine And.intro (show ae_g (.inl (0, 80, [(0, 9)])) (.inl (0, 80, .inl (fun _ => 0))) from ⟨rfl, rfl, z_arr (by decide)⟩) ?_
  refine And.intro (show ae_g (.inl (0, 300, [(0, 1), (0, 7), (0, 8)])) (.inl (0, 300, .inl (fun _ => 0))) from ⟨rfl, rfl, z_arr (by decide)⟩) ?_
  refine And.intro (show ae_g (.inl (2, 3, [(0, 1)])) (.inl (2, 3, .inl (fun _ => 0))) from ⟨rfl, rfl, z_arr (by decide)⟩) ?_
  refine And.intro (show ae_g (.inl (0, 8, [(0, 8)])) (.inl (0, 8, .inl (fun _ => 0))) from ⟨rfl, rfl, z_arr (by decide)⟩) ?_
  refine And.intro (show ae_g (.inl (0, 10, [((-1), 7)])) (.inl (0, 10, .inl (fun _ => 0))) from ⟨rfl, rfl, z_arr (by decide)⟩) ?_
  refine And.intro (show ae_g (.inl (0, 8, [((-1), 9)])) (.inl (0, 8, .inl (fun _ => 0))) from ⟨rfl, rfl, z_arr (by decide)⟩) ?_
  refine And.intro (show ae_g (.inl (0, 9, [(0, 8)])) (.inl (0, 9, .inl (fun _ => 0))) from ⟨rfl, rfl, z_arr (by decide)⟩) ?_
  refine And.intro (show ae_g (.inl (0, 9, [(0, 8)])) (.inl (0, 9, .inl (fun _ => 0))) from ⟨rfl, rfl, z_arr (by decide)⟩) ?_
  refine And.intro (show ae_g (.inl (0, 9, [((-2147483648), 2147483647)])) (.inl (0, 9, .inl (fun _ => 0))) from ⟨rfl, rfl, z_arr (by decide)⟩) ?_
  refine And.intro (show ae_g (.inl (0, 8, [(0, 8)])) (.inl (0, 8, .inl (fun _ => 0))) from ⟨rfl, rfl, z_arr (by decide)⟩) ?_
  refine And.intro (show ae_g (.inl (0, 18, [(0, 8)])) (.inl (0, 18, .inl (fun _ => 0))) from ⟨rfl, rfl, z_arr (by decide)⟩) ?_
  refine And.intro (show ae_g (.inl (0, 8, [((-2147483648), 2147483647)])) (.inl (0, 8, .inl (fun _ => 0))) from ⟨rfl, rfl, z_arr (by decide)⟩) ?_
  refine And.intro (show ae_g (.inl (0, 9, [(0, 8)])) (.inl (0, 9, .inl (fun _ => 0))) from ⟨rfl, rfl, z_arr (by decide)⟩) ?_
  refine And.intro (show ae_g (.inl (0, 5, [(0, 4)])) (.inl (0, 5, .inl (fun _ => 0))) from ⟨rfl, rfl, z_arr (by decide)⟩) ?_
  refine And.intro (show ae_g (.inl (0, 6, [(0, 1)])) (.inl (0, 6, .inl (fun _ => 0))) from ⟨rfl, rfl, z_arr (by decide)⟩) ?_
  refine And.intro (show ae_g (.inl (0, 10, [(0, 9)])) (.inl (0, 10, .inl (fun _ => 0))) from ⟨rfl, rfl, z_arr (by decide)⟩) ?_
  refine And.intro (show ae_g (.inl (0, 72, [((-1), 9)])) (.inl (0, 72, .inl (fun _ => 0))) from ⟨rfl, rfl, z_arr (by decide)⟩) ?_
  exact trivial
theorem FA_hp0 (T a G b st j : Nat) (hT : ∀ k, ld hp0 T k = some (.int 0)) : FA T a G b st j hp0 := by
  intro i _ _ t g h1 _ h3
  rw [hT] at h1
  cases h1
  exact absurd rfl h3
theorem RV_hp0 : RV hp0 := by
  have e84 : ∀ k, gn hp0 84 k = 0 := fun k => rfl
  have e87 : ∀ k, gn hp0 87 k = 0 := fun k => rfl
  refine ⟨fun r _ => ⟨by rw [e84, e84]; omega, fun c hc => ?_, fun k hk => ?_⟩, fun r _ i _ q => absurd (e87 _) q⟩
  · rw [e84] at hc; omega
  · rw [e84] at hk; omega
theorem IVh_hp0 : IVh hp0 := by
  refine ⟨HH_hp0, fun i hi => ?_, RV_hp0⟩
  have hi : i ∈ [20, 41, 62, 83, 104] := hi
  simp only [List.mem_cons, List.not_mem_nil, or_false] at hi
  rcases hi with rfl | rfl | rfl | rfl | rfl
  · exact (FA_hp0 12 0 11 0 1 20 (fun _ => rfl) : FA 12 0 11 0 1 20 hp0)
  · exact (FA_hp0 23 0 22 0 1 20 (fun _ => rfl) : FA 23 0 22 0 1 20 hp0)
  · exact (FA_hp0 33 0 32 0 1 20 (fun _ => rfl) : FA 33 0 32 0 1 20 hp0)
  · exact (FA_hp0 42 0 41 0 1 20 (fun _ => rfl) : FA 42 0 41 0 1 20 hp0)
  · exact (FA_hp0 51 0 50 0 1 20 (fun _ => rfl) : FA 51 0 50 0 1 20 hp0)
end
section
/-! the tapes -/
/-- a byte of a number, as it is stored -/
noncomputable def byv (v : Int32) (s : Nat) : Int32 := vp_nar .byte (v >>> (nJ s &&& 31)).toInt8.toInt32
theorem nar_b (v : Int32) : -128 ≤ (vp_nar .byte v).toInt ∧ (vp_nar .byte v).toInt ≤ 127 := by
  have e : vp_nar .byte v = v.toInt8.toInt32 := rfl
  rw [e, Int8.toInt_toInt32]
  have h1 := Int8.le_toInt v.toInt8
  have h2 := Int8.toInt_lt v.toInt8
  omega
/-- one byte more -/
noncomputable def rdb (A a k : Nat) (h : pm_H) (b : Int32) : pm_H := pt (pt h A (gn h a k) b) a k (nJ (gn h a k + 1))
/-- a tape: bytes in cell A, their number at (a, k) -/
noncomputable def isT (A a k : Nat) : Prop := A ≠ a ∧ bd a k = some (0, 500) ∧ hs0[A]? = some (.inl (1, 500, [((-128), 127)]))
theorem isT8 : isT 2 1 1 := ⟨by decide, rfl, rfl⟩
theorem isT9 : isT 82 77 6 := ⟨by decide, rfl, rfl⟩
theorem rdb_ok {A a k : Nat} {h : pm_H} {b : Int32} (t : isT A a k) (hh : HH h) (hn : gn h a k < 500) (hb : -128 ≤ b.toInt ∧ b.toInt ≤ 127) : HH (pt h A (gn h a k) b) ∧ gn (pt h A (gn h a k) b) a k = gn h a k ∧ HH (rdb A a k h b) ∧ gn (rdb A a k h b) a k = gn h a k + 1 ∧ (∀ j, j < gn h a k → gi (rdb A a k h b) A j = gi h A j) ∧ gi (rdb A a k h b) A (gn h a k) = b ∧ fr_g [(a, k, k), (A, 0, 499)] h (rdb A a k h b) := by
  obtain ⟨t1, t2, t3⟩ := t
  have h1 : HH (pt h A (gn h a k) b) := HH_pt hh (bd_u t3 hn) hb.1 hb.2
  have t1' : A = a → False := t1
  have h2 : gn (pt h A (gn h a k) b) a k = gn h a k := gn_ne (fun e => absurd e.symm t1)
  refine ⟨h1, h2, HH_ptn h1 t2 (by omega) (by omega) (by omega), gn_ptn h1 t2 (by omega) (by omega) (by omega), fun j hj => ?_, ?_, ?_⟩
  · unfold rdb
    rw [gi_ne (fun e => absurd e t1), gi_ne (fun _ => by omega)]
  · unfold rdb
    rw [gi_ne (fun e => absurd e t1)]
    exact gi_pt hh (bd_u t3 hn) hb.1 hb.2
  · unfold rdb
    refine fr_ptr (l := k) (u := k) ?_ (Nat.le_refl _) (Nat.le_refl _) (fr_ptr (l := 0) (u := 499) ?_ (Nat.zero_le _) (by omega) (fr_rf _ _))
    · unfold rg_sub; simp
    · unfold rg_sub; simp
/-- four bytes more -/
noncomputable def rd4 (A a k : Nat) (h : pm_H) (v : Int32) : pm_H := rdb A a k (rdb A a k (rdb A a k (rdb A a k h (byv v 24)) (byv v 16)) (byv v 8)) (byv v 0)
noncomputable def b4 (v : Int32) (i : Nat) : Int32 := byv v (24 - 8 * i)
theorem rd4_ok {A a k : Nat} {h : pm_H} {v : Int32} (t : isT A a k) (hh : HH h) (hn : gn h a k + 4 ≤ 500) : HH (rd4 A a k h v) ∧ gn (rd4 A a k h v) a k = gn h a k + 4 ∧ (∀ j, j < gn h a k → gi (rd4 A a k h v) A j = gi h A j) ∧ (∀ i, i < 4 → gi (rd4 A a k h v) A (gn h a k + i) = b4 v i) ∧ fr_g [(a, k, k), (A, 0, 499)] h (rd4 A a k h v) := by
  obtain ⟨-, -, p1, p2, p3, p4, p5⟩ := rdb_ok (b := byv v 24) t hh (by omega) (nar_b _)
  obtain ⟨-, -, q1, q2, q3, q4, q5⟩ := rdb_ok (b := byv v 16) t p1 (by omega) (nar_b _)
  obtain ⟨-, -, r1, r2, r3, r4, r5⟩ := rdb_ok (b := byv v 8) t q1 (by omega) (nar_b _)
  obtain ⟨-, -, s1, s2, s3, s4, s5⟩ := rdb_ok (b := byv v 0) t r1 (by omega) (nar_b _)
  refine ⟨s1, by show gn (rdb _ _ _ _ _) a k = _; omega, fun j hj => ?_, fun i hi => ?_, fr_trans p5 (fr_trans q5 (fr_trans r5 s5))⟩
  · exact (s3 j (by omega)).trans ((r3 j (by omega)).trans ((q3 j (by omega)).trans (p3 j hj)))
  · match i, hi with
    | 0, _ => exact (s3 _ (by omega)).trans ((r3 _ (by omega)).trans ((q3 _ (by omega)).trans p4))
    | 1, _ => rw [← p2]; exact (s3 _ (by omega)).trans ((r3 _ (by omega)).trans q4)
    | 2, _ => rw [show gn h a k + 2 = gn (rdb A a k (rdb A a k h (byv v 24)) (byv v 16)) a k by omega]; exact (s3 _ (by omega)).trans r4
    | 3, _ => rw [show gn h a k + 3 = gn (rdb A a k (rdb A a k (rdb A a k h (byv v 24)) (byv v 16)) (byv v 8)) a k by omega]; exact s4
/-- twenty bytes more -/
noncomputable def rd20 (A a k : Nat) (h : pm_H) (v1 v2 v3 v4 v5 : Int32) : pm_H := rd4 A a k (rd4 A a k (rd4 A a k (rd4 A a k (rd4 A a k h v1) v2) v3) v4) v5
noncomputable def b20 (v1 v2 v3 v4 v5 : Int32) (i : Nat) : Int32 := if i < 4 then b4 v1 i else if i < 8 then b4 v2 (i - 4) else if i < 12 then b4 v3 (i - 8) else if i < 16 then b4 v4 (i - 12) else b4 v5 (i - 16)
theorem rd20_ok {A a k : Nat} {h : pm_H} {v1 v2 v3 v4 v5 : Int32} (t : isT A a k) (hh : HH h) (hn : gn h a k + 20 ≤ 500) : HH (rd20 A a k h v1 v2 v3 v4 v5) ∧ gn (rd20 A a k h v1 v2 v3 v4 v5) a k = gn h a k + 20 ∧ (∀ j, j < gn h a k → gi (rd20 A a k h v1 v2 v3 v4 v5) A j = gi h A j) ∧ (∀ i, i < 20 → gi (rd20 A a k h v1 v2 v3 v4 v5) A (gn h a k + i) = b20 v1 v2 v3 v4 v5 i) ∧ fr_g [(a, k, k), (A, 0, 499)] h (rd20 A a k h v1 v2 v3 v4 v5) := by
  obtain ⟨a1, a2, a3, a4, a5⟩ := rd4_ok (v := v1) t hh (by omega)
  obtain ⟨c1, c2, c3, c4, c5⟩ := rd4_ok (v := v2) t a1 (by omega)
  obtain ⟨d1, d2, d3, d4, d5⟩ := rd4_ok (v := v3) t c1 (by omega)
  obtain ⟨e1, e2, e3, e4, e5⟩ := rd4_ok (v := v4) t d1 (by omega)
  obtain ⟨f1, f2, f3, f4, f5⟩ := rd4_ok (v := v5) t e1 (by omega)
  refine ⟨f1, by show gn (rd4 _ _ _ _ _) a k = _; omega, fun j hj => ?_, fun i hi => ?_, fr_trans a5 (fr_trans c5 (fr_trans d5 (fr_trans e5 f5)))⟩
  · exact (f3 j (by omega)).trans ((e3 j (by omega)).trans ((d3 j (by omega)).trans ((c3 j (by omega)).trans (a3 j hj))))
  · unfold b20
    split
    · exact (f3 _ (by omega)).trans ((e3 _ (by omega)).trans ((d3 _ (by omega)).trans ((c3 _ (by omega)).trans (a4 i (by omega)))))
    · split
      · have := c4 (i - 4) (by omega)
        rw [show gn (rd4 A a k h v1) a k + (i - 4) = gn h a k + i by omega] at this
        exact (f3 _ (by omega)).trans ((e3 _ (by omega)).trans ((d3 _ (by omega)).trans this))
      · split
        · have := d4 (i - 8) (by omega)
          rw [show gn (rd4 A a k (rd4 A a k h v1) v2) a k + (i - 8) = gn h a k + i by omega] at this
          exact (f3 _ (by omega)).trans ((e3 _ (by omega)).trans this)
        · split
          · have := e4 (i - 12) (by omega)
            rw [show gn (rd4 A a k (rd4 A a k (rd4 A a k h v1) v2) v3) a k + (i - 12) = gn h a k + i by omega] at this
            exact (f3 _ (by omega)).trans this
          · have := f4 (i - 16) (by omega)
            rw [show gn (rd4 A a k (rd4 A a k (rd4 A a k (rd4 A a k h v1) v2) v3) v4) a k + (i - 16) = gn h a k + i by omega] at this
            exact this
/-- the tapes of class and reference -/
noncomputable def TP (h : pm_H) : Prop := gn h 1 1 = gn h 77 6 ∧ ∀ j, j < gn h 1 1 → gi h 2 j = gi h 82 j
theorem TP_fr {M : List Rng} {h h' : pm_H} (hf : fr_g M h h') (h1 : rg_in M 1 1 = false) (h2 : rg_in M 77 6 = false) (h3 : M.all (fun r => !(Nat.beq r.1 2)) = true) (h4 : M.all (fun r => !(Nat.beq r.1 82)) = true) (T : TP h) : TP h' := by
  refine ⟨by rw [fr_gn hf h1, fr_gn hf h2]; exact T.1, fun j hj => ?_⟩
  rw [fr_gn hf h1] at hj
  rw [fr_gi hf (rg_no h3 j), fr_gi hf (rg_no h4 j)]
  exact T.2 j hj
end
section
/-! by hand: feed and end of class and reference (written by gen_t26.py) -/
theorem add_r {h : pm_H} {d s : Nat} {v x : Int32} {Q : pm_H → Option Value → Prop} (lv : List (Nat × Value)) (hh : HH h) (hn : gn h 1 1 < 500) (hs : s < 32) (hx : nJ s + (-8) = x) (L0 : pm_get lv 0 = some (.ref 1)) (L1 : pm_get lv 1 = some (.int v)) (L2 : pm_get lv 2 = some (.int (nJ s))) (K : ∀ lv : List (Nat × Value), pm_get lv 0 = some (.ref 1) → pm_get lv 1 = some (.int v) → pm_get lv 2 = some (.int x) → Ends (pm_at tX6_add) (pm_Rt pm_P d) (3, lv, [], rdb 2 1 1 h (byv v s), 0, 0) Q) : Ends (pm_at tX6_add) (pm_Rt pm_P d) (3, lv, [], h, 0, 0) Q := by
  refine E_il rfl L2 ?_
  refine E_ifF rfl (decide_eq_false (nJ_lt0 (by omega))) ?_
  refine E_al rfl L0 ?_
  refine E_ogf rfl hh rfl rfl (show gi h 1 1 = nJ ((gn h 1 1)) from (gi_gn hh rfl (by decide))) ?_
  refine E_ci 500 rfl ci500 ?_
  refine E_icF rfl (decide_eq_false (fun q => absurd ((nJ_le (a := 500) (by omega) (by omega)).mp q) (by omega))) ?_
  refine E_al rfl L0 ?_
  refine E_ogr rfl hh rfl (q := 2) rfl ?_
  refine E_al rfl L0 ?_
  refine E_ogf rfl hh rfl rfl (show gi h 1 1 = nJ ((gn h 1 1)) from (gi_gn hh rfl (by decide))) ?_
  refine E_il rfl L1 ?_
  refine E_il rfl L2 ?_
  refine E_bin rfl rfl ?_
  refine E_un rfl ?_
  refine E_bas rfl hh rfl (by omega) (by decide) ?_
  obtain ⟨p1, p2, p3, p4, -, -, -⟩ := rdb_ok (b := byv v s) isT8 hh hn (nar_b _)
  show Ends _ _ (30, lv, [], (pt h 2 (gn h 1 1) (byv v s)), 0, 0) _
  refine E_al rfl L0 ?_
  refine E_dup rfl rfl ?_
  refine E_ogf rfl p1 rfl rfl (show gi (pt h 2 (gn h 1 1) (byv v s)) 1 1 = nJ ((gn h 1 1)) from (by rw [gi_ne (by first | exact gxx rfl | omega)]; exact gi_gn hh rfl (by decide))) ?_
  refine E_ci 1 rfl ci1 ?_
  refine E_bin rfl (nJ_add _ _) ?_
  refine E_opf rfl p1 rfl rfl ?_
  have hh1 : HH (pt (pt h 2 (gn h 1 1) (byv v s)) 1 1 (nJ (((gn h 1 1) + 1)))) := HH_ptn p1 rfl (by omega) (by omega) (by omega)
  refine E_inc rfl L2 hx (fun lv2 L2_2 kp2 => ?_)
  have L2_0 := kp2 0 _ (nbz rfl) rfl L0
  have L2_1 := kp2 1 _ (nbz rfl) rfl L1
  refine E_goto rfl ?_
  exact K lv2 L2_0 L2_1 L2_2
theorem sp_add {h : pm_H} {d : Nat} {v : Int32} (hh : HH h) (hn : gn h 1 1 + 4 ≤ 500) : Sp (d + 1) 55 h [.ref 1, .int v] (fun h' r => r = none ∧ h' = rd4 2 1 1 h v) := by
  refine Sp_of aiX6_add rfl rfl rfl ?_
  refine E_ci 24 rfl ci24 ?_
  refine E_is rfl (fun lv1 L1_2 kp1 => ?_)
  have L1_0 := kp1 0 _ (nbz rfl) rfl (show pm_get (lv_args 0 [.ref 1, .int v]) 0 = _ from rfl)
  have L1_1 := kp1 1 _ (nbz rfl) rfl (show pm_get (lv_args 0 [.ref 1, .int v]) 1 = _ from rfl)
  have T := isT8
  obtain ⟨-, -, p1, p2, -, -, -⟩ := rdb_ok (b := byv v 24) T hh (by omega) (nar_b _)
  obtain ⟨-, -, q1, q2, -, -, -⟩ := rdb_ok (b := byv v 16) T p1 (by omega) (nar_b _)
  obtain ⟨-, -, r1, r2, -, -, -⟩ := rdb_ok (b := byv v 8) T q1 (by omega) (nar_b _)
  refine add_r (x := nJ 16) _ hh (by omega) (by omega) (by decide) L1_0 L1_1 L1_2 (fun lv A0 A1 A2 => ?_)
  refine add_r (x := nJ 8) _ p1 (by omega) (by omega) (by decide) A0 A1 A2 (fun lv A0 A1 A2 => ?_)
  refine add_r (x := nJ 0) _ q1 (by omega) (by omega) (by decide) A0 A1 A2 (fun lv A0 A1 A2 => ?_)
  refine add_r (x := -8) _ r1 (by omega) (by omega) (by decide) A0 A1 A2 (fun lv A0 A1 A2 => ?_)
  refine E_il rfl A2 ?_
  refine E_ifT rfl (by decide) ?_
  exact E_ret rfl ⟨rfl, rfl⟩
theorem four_r {h : pm_H} {d s : Nat} {v x : Int32} {Q : pm_H → Option Value → Prop} (lv : List (Nat × Value)) (hh : HH h) (hn : gn h 77 6 < 500) (hs : s < 32) (hx : nJ s + (-8) = x) (L0 : pm_get lv 0 = some (.ref 77)) (L1 : pm_get lv 1 = some (.int v)) (L2 : pm_get lv 2 = some (.int (nJ s))) (K : ∀ lv : List (Nat × Value), pm_get lv 0 = some (.ref 77) → pm_get lv 1 = some (.int v) → pm_get lv 2 = some (.int x) → Ends (pm_at tX9_four) (pm_Rt pm_P d) (3, lv, [], rdb 82 77 6 h (byv v s), 0, 0) Q) : Ends (pm_at tX9_four) (pm_Rt pm_P d) (3, lv, [], h, 0, 0) Q := by
  refine E_il rfl L2 ?_
  refine E_ifF rfl (decide_eq_false (nJ_lt0 (by omega))) ?_
  refine E_al rfl L0 ?_
  refine E_gr rfl hh (q := 82) rfl ?_
  refine E_al rfl L0 ?_
  refine E_gf rfl hh rfl (show gi h 77 6 = nJ ((gn h 77 6)) from (gi_gn hh rfl (by decide))) ?_
  refine E_il rfl L1 ?_
  refine E_il rfl L2 ?_
  refine E_bin rfl rfl ?_
  refine E_un rfl ?_
  refine E_bas rfl hh rfl (by omega) (by decide) ?_
  obtain ⟨p1, p2, p3, p4, -, -, -⟩ := rdb_ok (b := byv v s) isT9 hh hn (nar_b _)
  show Ends _ _ (20, lv, [], (pt h 82 (gn h 77 6) (byv v s)), 0, 0) _
  refine E_al rfl L0 ?_
  refine E_dup rfl rfl ?_
  refine E_gf rfl p1 rfl (show gi (pt h 82 (gn h 77 6) (byv v s)) 77 6 = nJ ((gn h 77 6)) from (by rw [gi_ne (by first | exact gxx rfl | omega)]; exact gi_gn hh rfl (by decide))) ?_
  refine E_ci 1 rfl ci1 ?_
  refine E_bin rfl (nJ_add _ _) ?_
  refine E_pf rfl p1 rfl ?_
  have hh1 : HH (pt (pt h 82 (gn h 77 6) (byv v s)) 77 6 (nJ (((gn h 77 6) + 1)))) := HH_ptn p1 rfl (by omega) (by omega) (by omega)
  refine E_inc rfl L2 hx (fun lv2 L2_2 kp2 => ?_)
  have L2_0 := kp2 0 _ (nbz rfl) rfl L0
  have L2_1 := kp2 1 _ (nbz rfl) rfl L1
  refine E_goto rfl ?_
  exact K lv2 L2_0 L2_1 L2_2
theorem sp_four {h : pm_H} {d : Nat} {v : Int32} (hh : HH h) (hn : gn h 77 6 + 4 ≤ 500) : Sp (d + 1) 252 h [.ref 77, .int v] (fun h' r => r = none ∧ h' = rd4 82 77 6 h v) := by
  refine Sp_of aiX9_four rfl rfl rfl ?_
  refine E_ci 24 rfl ci24 ?_
  refine E_is rfl (fun lv1 L1_2 kp1 => ?_)
  have L1_0 := kp1 0 _ (nbz rfl) rfl (show pm_get (lv_args 0 [.ref 77, .int v]) 0 = _ from rfl)
  have L1_1 := kp1 1 _ (nbz rfl) rfl (show pm_get (lv_args 0 [.ref 77, .int v]) 1 = _ from rfl)
  have T := isT9
  obtain ⟨-, -, p1, p2, -, -, -⟩ := rdb_ok (b := byv v 24) T hh (by omega) (nar_b _)
  obtain ⟨-, -, q1, q2, -, -, -⟩ := rdb_ok (b := byv v 16) T p1 (by omega) (nar_b _)
  obtain ⟨-, -, r1, r2, -, -, -⟩ := rdb_ok (b := byv v 8) T q1 (by omega) (nar_b _)
  refine four_r (x := nJ 16) _ hh (by omega) (by omega) (by decide) L1_0 L1_1 L1_2 (fun lv A0 A1 A2 => ?_)
  refine four_r (x := nJ 8) _ p1 (by omega) (by omega) (by decide) A0 A1 A2 (fun lv A0 A1 A2 => ?_)
  refine four_r (x := nJ 0) _ q1 (by omega) (by omega) (by decide) A0 A1 A2 (fun lv A0 A1 A2 => ?_)
  refine four_r (x := -8) _ r1 (by omega) (by omega) (by decide) A0 A1 A2 (fun lv A0 A1 A2 => ?_)
  refine E_il rfl A2 ?_
  refine E_ifT rfl (by decide) ?_
  exact E_ret rfl ⟨rfl, rfl⟩
theorem sp_feed8 {h : pm_H} {dd : Nat} {a b c d e : Int32} (hh : HH h) : Sp (dd + 2) 106 h [.ref 0, .int a, .int b, .int c, .int d, .int e] (fun h' r => (gn h 1 1 + 20 ≤ 500 ∧ h' = rd20 2 1 1 h a b c d e ∧ r = some (.int (nJ (gn h 1 1 + 20)))) ∨ (¬ gn h 1 1 + 20 ≤ 500 ∧ h' = h ∧ r = some (.int (-1)))) := by
  have hn5 : gn h 1 1 ≤ 500 := gn_hi hh rfl (by decide)
  refine Sp_of aiX8_feed rfl rfl rfl ?_
  refine E_al rfl (show pm_get (lv_args 0 [.ref 0, .int a, .int b, .int c, .int d, .int e]) 0 = _ from rfl) ?_
  refine E_ogr rfl hh rfl (q := 1) rfl ?_
  refine E_ogf rfl hh rfl rfl (show gi h 1 1 = nJ ((gn h 1 1)) from (gi_gn hh rfl (by decide))) ?_
  refine E_ci 480 rfl ci480 ?_
  by_cases hb1 : (gn h 1 1) ≤ 480
  · refine E_icT rfl (decide_eq_true ((nJ_le (by omega) (by omega)).mpr hb1)) ?_
    refine E_al rfl (show pm_get (lv_args 0 [.ref 0, .int a, .int b, .int c, .int d, .int e]) 0 = _ from rfl) ?_
    refine E_ogr rfl hh rfl (q := 1) rfl ?_
    refine E_il rfl (show pm_get (lv_args 0 [.ref 0, .int a, .int b, .int c, .int d, .int e]) 1 = _ from rfl) ?_
    refine E_call rfl (Sp_le (by first | exact Nat.add_le_add_left (Nat.le_of_ble_eq_true rfl) _ | exact Nat.le_of_ble_eq_true rfl | omega) (sp_add (d := 0) hh (by omega))) (chkO (a := 1) hh rfl rfl rfl rfl (by show 0 ≤ 8; decide)) (fun h2 r2 => ?_)
    rintro ⟨e2, f2⟩
    rw [e2, f2]
    obtain ⟨y2, n2, -, -, -⟩ := rd4_ok (v := a) isT8 hh (by omega)
    show Ends _ _ (23, (lv_args 0 [.ref 0, .int a, .int b, .int c, .int d, .int e]), [], (rd4 2 1 1 h a), 0, 0) _
    refine E_al rfl (show pm_get (lv_args 0 [.ref 0, .int a, .int b, .int c, .int d, .int e]) 0 = _ from rfl) ?_
    refine E_ogr rfl y2 rfl (q := 1) rfl ?_
    refine E_il rfl (show pm_get (lv_args 0 [.ref 0, .int a, .int b, .int c, .int d, .int e]) 2 = _ from rfl) ?_
    refine E_call rfl (Sp_le (by first | exact Nat.add_le_add_left (Nat.le_of_ble_eq_true rfl) _ | exact Nat.le_of_ble_eq_true rfl | omega) (sp_add (d := 0) y2 (by omega))) (chkO (a := 1) y2 rfl rfl rfl rfl (by show 0 ≤ 8; decide)) (fun h3 r3 => ?_)
    rintro ⟨e3, f3⟩
    rw [e3, f3]
    obtain ⟨y3, n3, -, -, -⟩ := rd4_ok (v := b) isT8 y2 (by omega)
    show Ends _ _ (31, (lv_args 0 [.ref 0, .int a, .int b, .int c, .int d, .int e]), [], (rd4 2 1 1 (rd4 2 1 1 h a) b), 0, 0) _
    refine E_al rfl (show pm_get (lv_args 0 [.ref 0, .int a, .int b, .int c, .int d, .int e]) 0 = _ from rfl) ?_
    refine E_ogr rfl y3 rfl (q := 1) rfl ?_
    refine E_il rfl (show pm_get (lv_args 0 [.ref 0, .int a, .int b, .int c, .int d, .int e]) 3 = _ from rfl) ?_
    refine E_call rfl (Sp_le (by first | exact Nat.add_le_add_left (Nat.le_of_ble_eq_true rfl) _ | exact Nat.le_of_ble_eq_true rfl | omega) (sp_add (d := 0) y3 (by omega))) (chkO (a := 1) y3 rfl rfl rfl rfl (by show 0 ≤ 8; decide)) (fun h4 r4 => ?_)
    rintro ⟨e4, f4⟩
    rw [e4, f4]
    obtain ⟨y4, n4, -, -, -⟩ := rd4_ok (v := c) isT8 y3 (by omega)
    show Ends _ _ (39, (lv_args 0 [.ref 0, .int a, .int b, .int c, .int d, .int e]), [], (rd4 2 1 1 (rd4 2 1 1 (rd4 2 1 1 h a) b) c), 0, 0) _
    refine E_al rfl (show pm_get (lv_args 0 [.ref 0, .int a, .int b, .int c, .int d, .int e]) 0 = _ from rfl) ?_
    refine E_ogr rfl y4 rfl (q := 1) rfl ?_
    refine E_il rfl (show pm_get (lv_args 0 [.ref 0, .int a, .int b, .int c, .int d, .int e]) 4 = _ from rfl) ?_
    refine E_call rfl (Sp_le (by first | exact Nat.add_le_add_left (Nat.le_of_ble_eq_true rfl) _ | exact Nat.le_of_ble_eq_true rfl | omega) (sp_add (d := 0) y4 (by omega))) (chkO (a := 1) y4 rfl rfl rfl rfl (by show 0 ≤ 8; decide)) (fun h5 r5 => ?_)
    rintro ⟨e5, f5⟩
    rw [e5, f5]
    obtain ⟨y5, n5, -, -, -⟩ := rd4_ok (v := d) isT8 y4 (by omega)
    show Ends _ _ (48, (lv_args 0 [.ref 0, .int a, .int b, .int c, .int d, .int e]), [], (rd4 2 1 1 (rd4 2 1 1 (rd4 2 1 1 (rd4 2 1 1 h a) b) c) d), 0, 0) _
    refine E_al rfl (show pm_get (lv_args 0 [.ref 0, .int a, .int b, .int c, .int d, .int e]) 0 = _ from rfl) ?_
    refine E_ogr rfl y5 rfl (q := 1) rfl ?_
    refine E_il rfl (show pm_get (lv_args 0 [.ref 0, .int a, .int b, .int c, .int d, .int e]) 5 = _ from rfl) ?_
    refine E_call rfl (Sp_le (by first | exact Nat.add_le_add_left (Nat.le_of_ble_eq_true rfl) _ | exact Nat.le_of_ble_eq_true rfl | omega) (sp_add (d := 0) y5 (by omega))) (chkO (a := 1) y5 rfl rfl rfl rfl (by show 0 ≤ 8; decide)) (fun h6 r6 => ?_)
    rintro ⟨e6, f6⟩
    rw [e6, f6]
    obtain ⟨y6, n6, -, -, -⟩ := rd4_ok (v := e) isT8 y5 (by omega)
    show Ends _ _ (57, (lv_args 0 [.ref 0, .int a, .int b, .int c, .int d, .int e]), [], (rd4 2 1 1 (rd4 2 1 1 (rd4 2 1 1 (rd4 2 1 1 (rd4 2 1 1 h a) b) c) d) e), 0, 0) _
    refine E_al rfl (show pm_get (lv_args 0 [.ref 0, .int a, .int b, .int c, .int d, .int e]) 0 = _ from rfl) ?_
    refine E_ogr rfl y6 rfl (q := 1) rfl ?_
    refine E_ogf rfl y6 rfl rfl (show gi (rd4 2 1 1 (rd4 2 1 1 (rd4 2 1 1 (rd4 2 1 1 (rd4 2 1 1 h a) b) c) d) e) 1 1 = nJ ((gn h 1 1 + 20)) from (by rw [gi_gn y6 rfl (by decide)]; exact congrArg nJ (by omega))) ?_
    exact E_rti rfl (.inl ⟨by omega, rfl, rfl⟩)
  · refine E_icF rfl (decide_eq_false (fun q => hb1 ((nJ_le (by omega) (by omega)).mp q))) ?_
    refine E_c rfl ?_
    exact E_rti rfl (.inr ⟨by omega, rfl, rfl⟩)
theorem sp_feed9 {h : pm_H} {dd : Nat} {a b c d e : Int32} (hh : HH h) : Sp (dd + 2) 247 h [.ref 77, .int a, .int b, .int c, .int d, .int e] (fun h' r => (gn h 77 6 + 20 ≤ 500 ∧ h' = rd20 82 77 6 (pt h 77 0 (nJ 0)) a b c d e ∧ r = some (.int (nJ (gn h 77 6 + 20)))) ∨ (¬ gn h 77 6 + 20 ≤ 500 ∧ h' = (pt h 77 0 (nJ 0)) ∧ r = some (.int (-1)))) := by
  have hn5 : gn h 77 6 ≤ 500 := gn_hi hh rfl (by decide)
  refine Sp_of aiX9_feed rfl rfl rfl ?_
  refine E_al rfl (show pm_get (lv_args 0 [.ref 77, .int a, .int b, .int c, .int d, .int e]) 0 = _ from rfl) ?_
  refine E_ci 0 rfl ci0 ?_
  refine E_pf rfl hh rfl ?_
  have hh1 : HH (pt h 77 0 (nJ 0)) := HH_ptn hh rfl (by omega) (by omega) (by omega)
  have n0 : gn (pt h 77 0 (nJ 0)) 77 6 = gn h 77 6 := gn_ne (by first | exact gxx rfl | omega)
  refine E_al rfl (show pm_get (lv_args 0 [.ref 77, .int a, .int b, .int c, .int d, .int e]) 0 = _ from rfl) ?_
  refine E_gf rfl hh1 rfl (show gi (pt h 77 0 (nJ 0)) 77 6 = nJ ((gn h 77 6)) from (by rw [gi_ne (by first | exact gxx rfl | omega)]; exact gi_gn hh rfl (by decide))) ?_
  refine E_ci 20 rfl ci20 ?_
  refine E_bin rfl (nJ_add _ _) ?_
  refine E_ci 500 rfl ci500 ?_
  by_cases hb2 : ((gn h 77 6) + 20) ≤ 500
  · refine E_icT rfl (decide_eq_true ((nJ_le (by omega) (by omega)).mpr hb2)) ?_
    refine E_al rfl (show pm_get (lv_args 0 [.ref 77, .int a, .int b, .int c, .int d, .int e]) 0 = _ from rfl) ?_
    refine E_il rfl (show pm_get (lv_args 0 [.ref 77, .int a, .int b, .int c, .int d, .int e]) 1 = _ from rfl) ?_
    refine E_call rfl (Sp_le (by first | exact Nat.add_le_add_left (Nat.le_of_ble_eq_true rfl) _ | exact Nat.le_of_ble_eq_true rfl | omega) (sp_four (d := 0) hh1 (by omega))) (chk77 hh1 rfl rfl (by show 0 ≤ 8; decide)) (fun h3 r3 => ?_)
    rintro ⟨e3, f3⟩
    rw [e3, f3]
    obtain ⟨y3, n3, -, -, -⟩ := rd4_ok (v := a) isT9 hh1 (by omega)
    show Ends _ _ (25, (lv_args 0 [.ref 77, .int a, .int b, .int c, .int d, .int e]), [], (rd4 82 77 6 (pt h 77 0 (nJ 0)) a), 0, 0) _
    refine E_al rfl (show pm_get (lv_args 0 [.ref 77, .int a, .int b, .int c, .int d, .int e]) 0 = _ from rfl) ?_
    refine E_il rfl (show pm_get (lv_args 0 [.ref 77, .int a, .int b, .int c, .int d, .int e]) 2 = _ from rfl) ?_
    refine E_call rfl (Sp_le (by first | exact Nat.add_le_add_left (Nat.le_of_ble_eq_true rfl) _ | exact Nat.le_of_ble_eq_true rfl | omega) (sp_four (d := 0) y3 (by omega))) (chk77 y3 rfl rfl (by show 0 ≤ 8; decide)) (fun h4 r4 => ?_)
    rintro ⟨e4, f4⟩
    rw [e4, f4]
    obtain ⟨y4, n4, -, -, -⟩ := rd4_ok (v := b) isT9 y3 (by omega)
    show Ends _ _ (30, (lv_args 0 [.ref 77, .int a, .int b, .int c, .int d, .int e]), [], (rd4 82 77 6 (rd4 82 77 6 (pt h 77 0 (nJ 0)) a) b), 0, 0) _
    refine E_al rfl (show pm_get (lv_args 0 [.ref 77, .int a, .int b, .int c, .int d, .int e]) 0 = _ from rfl) ?_
    refine E_il rfl (show pm_get (lv_args 0 [.ref 77, .int a, .int b, .int c, .int d, .int e]) 3 = _ from rfl) ?_
    refine E_call rfl (Sp_le (by first | exact Nat.add_le_add_left (Nat.le_of_ble_eq_true rfl) _ | exact Nat.le_of_ble_eq_true rfl | omega) (sp_four (d := 0) y4 (by omega))) (chk77 y4 rfl rfl (by show 0 ≤ 8; decide)) (fun h5 r5 => ?_)
    rintro ⟨e5, f5⟩
    rw [e5, f5]
    obtain ⟨y5, n5, -, -, -⟩ := rd4_ok (v := c) isT9 y4 (by omega)
    show Ends _ _ (35, (lv_args 0 [.ref 77, .int a, .int b, .int c, .int d, .int e]), [], (rd4 82 77 6 (rd4 82 77 6 (rd4 82 77 6 (pt h 77 0 (nJ 0)) a) b) c), 0, 0) _
    refine E_al rfl (show pm_get (lv_args 0 [.ref 77, .int a, .int b, .int c, .int d, .int e]) 0 = _ from rfl) ?_
    refine E_il rfl (show pm_get (lv_args 0 [.ref 77, .int a, .int b, .int c, .int d, .int e]) 4 = _ from rfl) ?_
    refine E_call rfl (Sp_le (by first | exact Nat.add_le_add_left (Nat.le_of_ble_eq_true rfl) _ | exact Nat.le_of_ble_eq_true rfl | omega) (sp_four (d := 0) y5 (by omega))) (chk77 y5 rfl rfl (by show 0 ≤ 8; decide)) (fun h6 r6 => ?_)
    rintro ⟨e6, f6⟩
    rw [e6, f6]
    obtain ⟨y6, n6, -, -, -⟩ := rd4_ok (v := d) isT9 y5 (by omega)
    show Ends _ _ (41, (lv_args 0 [.ref 77, .int a, .int b, .int c, .int d, .int e]), [], (rd4 82 77 6 (rd4 82 77 6 (rd4 82 77 6 (rd4 82 77 6 (pt h 77 0 (nJ 0)) a) b) c) d), 0, 0) _
    refine E_al rfl (show pm_get (lv_args 0 [.ref 77, .int a, .int b, .int c, .int d, .int e]) 0 = _ from rfl) ?_
    refine E_il rfl (show pm_get (lv_args 0 [.ref 77, .int a, .int b, .int c, .int d, .int e]) 5 = _ from rfl) ?_
    refine E_call rfl (Sp_le (by first | exact Nat.add_le_add_left (Nat.le_of_ble_eq_true rfl) _ | exact Nat.le_of_ble_eq_true rfl | omega) (sp_four (d := 0) y6 (by omega))) (chk77 y6 rfl rfl (by show 0 ≤ 8; decide)) (fun h7 r7 => ?_)
    rintro ⟨e7, f7⟩
    rw [e7, f7]
    obtain ⟨y7, n7, -, -, -⟩ := rd4_ok (v := e) isT9 y6 (by omega)
    show Ends _ _ (47, (lv_args 0 [.ref 77, .int a, .int b, .int c, .int d, .int e]), [], (rd4 82 77 6 (rd4 82 77 6 (rd4 82 77 6 (rd4 82 77 6 (rd4 82 77 6 (pt h 77 0 (nJ 0)) a) b) c) d) e), 0, 0) _
    refine E_al rfl (show pm_get (lv_args 0 [.ref 77, .int a, .int b, .int c, .int d, .int e]) 0 = _ from rfl) ?_
    refine E_gf rfl y7 rfl (show gi (rd4 82 77 6 (rd4 82 77 6 (rd4 82 77 6 (rd4 82 77 6 (rd4 82 77 6 (pt h 77 0 (nJ 0)) a) b) c) d) e) 77 6 = nJ ((gn h 77 6 + 20)) from (by rw [gi_gn y7 rfl (by decide)]; exact congrArg nJ (by omega))) ?_
    exact E_rti rfl (.inl ⟨by omega, rfl, rfl⟩)
  · refine E_icF rfl (decide_eq_false (fun q => hb2 ((nJ_le (by omega) (by omega)).mp q))) ?_
    refine E_c rfl ?_
    exact E_rti rfl (.inr ⟨by omega, rfl, rfl⟩)
theorem sp_end8 {h : pm_H} {d : Nat} {x : Int32} (hh : HH h) : Sp (d + 1) 101 h [.ref 0, .int x] (fun h' r => ((0 ≤ x.toInt ∧ x.toInt ≤ (gn h 1 1 : Int)) ∧ h' = pt h 1 1 x ∧ r = some (.int x)) ∨ (¬ (0 ≤ x.toInt ∧ x.toInt ≤ (gn h 1 1 : Int)) ∧ h' = h ∧ r = some (.int (-1)))) := by
  have hn5 : gn h 1 1 ≤ 500 := gn_hi hh rfl (by decide)
  refine Sp_of aiX8_end rfl rfl rfl ?_
  refine E_il rfl (show pm_get (lv_args 0 [.ref 0, .int x]) 1 = _ from rfl) ?_
  by_cases hb1 : x.toInt < 0
  · refine E_ifT rfl (decide_eq_true (Int32.lt_iff_toInt_lt.mpr hb1)) ?_
    refine E_c rfl ?_
    exact E_rti rfl (.inr ⟨fun q => by have q1 := q.1; have q2 := q.2; omega, rfl, rfl⟩)
  · refine E_ifF rfl (decide_eq_false (fun q => hb1 (Int32.lt_iff_toInt_lt.mp q))) ?_
    refine E_il rfl (show pm_get (lv_args 0 [.ref 0, .int x]) 1 = _ from rfl) ?_
    refine E_al rfl (show pm_get (lv_args 0 [.ref 0, .int x]) 0 = _ from rfl) ?_
    refine E_ogr rfl hh rfl (q := 1) rfl ?_
    refine E_ogf rfl hh rfl rfl (show gi h 1 1 = nJ ((gn h 1 1)) from (gi_gn hh rfl (by decide))) ?_
    by_cases hb2 : x.toInt ≤ (gn h 1 1 : Int)
    · refine E_icT rfl (decide_eq_true (Int32.le_iff_toInt_le.mpr (by rw [nJ_toInt (by omega)]; exact hb2))) ?_
      have hx0 : 0 ≤ x.toInt := by omega
      have hx1 : x.toInt ≤ (gn h 1 1 : Int) := hb2
      refine E_al rfl (show pm_get (lv_args 0 [.ref 0, .int x]) 0 = _ from rfl) ?_
      refine E_ogr rfl hh rfl (q := 1) rfl ?_
      refine E_il rfl (show pm_get (lv_args 0 [.ref 0, .int x]) 1 = _ from rfl) ?_
      refine E_opf rfl hh rfl rfl ?_
      have hh3 : HH (pt h 1 1 x) := HH_pt hh rfl (by show (0 : Int) ≤ _; exact hx0) (by show _ ≤ (500 : Int); omega)
      refine E_il rfl (show pm_get (lv_args 0 [.ref 0, .int x]) 1 = _ from rfl) ?_
      exact E_rti rfl (.inl ⟨⟨hx0, hx1⟩, rfl, rfl⟩)
    · refine E_icF rfl (decide_eq_false (fun q => hb2 (by have q9 := Int32.le_iff_toInt_le.mp q; rw [nJ_toInt (by omega)] at q9; exact q9))) ?_
      refine E_c rfl ?_
      exact E_rti rfl (.inr ⟨fun q => by have q1 := q.1; have q2 := q.2; omega, rfl, rfl⟩)
theorem sp_end9 {h : pm_H} {d : Nat} {x : Int32} (hh : HH h) : Sp (d + 2) 241 h [.ref 77, .int x] (fun h' r => ((0 ≤ x.toInt ∧ x.toInt ≤ ((gn h 77 6 : Nat) : Int)) ∧ h' = pt (pt h 77 0 (nJ 0)) 77 6 x ∧ r = some (.int x)) ∨ (¬ (0 ≤ x.toInt ∧ x.toInt ≤ ((gn h 77 6 : Nat) : Int)) ∧ h' = pt h 77 0 (nJ 0) ∧ r = some (.int (-1)))) := by
  have hn5 : gn h 77 6 ≤ 500 := gn_hi hh rfl (by decide)
  refine Sp_of aiX9_end rfl rfl rfl ?_
  refine E_al rfl (show pm_get (lv_args 0 [.ref 77, .int x]) 0 = _ from rfl) ?_
  refine E_ci 0 rfl ci0 ?_
  refine E_pf rfl hh rfl ?_
  have hh1 : HH (pt h 77 0 (nJ 0)) := HH_ptn hh rfl (by omega) (by omega) (by omega)
  refine E_il rfl (show pm_get (lv_args 0 [.ref 77, .int x]) 1 = _ from rfl) ?_
  refine E_i2l rfl ?_
  refine E_c rfl ?_
  refine E_al rfl (show pm_get (lv_args 0 [.ref 77, .int x]) 0 = _ from rfl) ?_
  refine E_gf rfl hh1 rfl (show gi (pt h 77 0 (nJ 0)) 77 6 = nJ ((gn h 77 6)) from (by rw [gi_ne (by first | exact gxx rfl | omega)]; exact gi_gn hh rfl (by decide))) ?_
  refine E_i2l rfl ?_
  refine E_call rfl (sp_in (a := x.toInt) (b := 0) (c := ((((gn h 77 6)) : Nat) : Int)) (i2l_toInt _) rfl (i2l_nJ (by omega))) (chkS rfl (by show 0 ≤ 8; decide)) (fun h2 r2 => ?_)
  rintro ⟨e2, f2⟩
  rw [e2, f2]
  show Ends _ _ (16, (lv_args 0 [.ref 77, .int x]), [.int (zb (0 ≤ x.toInt ∧ x.toInt ≤ ((((gn h 77 6)) : Nat) : Int)))], (pt h 77 0 (nJ 0)), 0, 0) _
  by_cases hb3 : 0 ≤ x.toInt ∧ x.toInt ≤ ((((gn h 77 6)) : Nat) : Int)
  · refine E_ifT rfl (by rw [zb_T hb3]; rfl) ?_
    refine E_al rfl (show pm_get (lv_args 0 [.ref 77, .int x]) 0 = _ from rfl) ?_
    refine E_il rfl (show pm_get (lv_args 0 [.ref 77, .int x]) 1 = _ from rfl) ?_
    refine E_pf rfl hh1 rfl ?_
    have hh4 : HH (pt (pt h 77 0 (nJ 0)) 77 6 x) := HH_pt hh1 rfl (by show (0 : Int) ≤ _; exact hb3.1) (by show _ ≤ (500 : Int); have := hb3.2; omega)
    refine E_il rfl (show pm_get (lv_args 0 [.ref 77, .int x]) 1 = _ from rfl) ?_
    exact E_rti rfl (.inl ⟨hb3, rfl, rfl⟩)
  · refine E_ifF rfl (by rw [zb_F hb3]; rfl) ?_
    refine E_c rfl ?_
    exact E_rti rfl (.inr ⟨hb3, rfl, rfl⟩)
end
section
/-! the relation of class and reference (written by gen_t27.py) -/
noncomputable def KP (h : pm_H) : Prop := ∀ j, j < 3 → gi h 52 j = gi h 88 j
noncomputable def REL (h : pm_H) : Prop := TP h ∧ KP h
noncomputable def IVR (h : pm_H) : Prop := IVh h ∧ REL h
noncomputable def kpB (M : List Rng) : Bool := M.all (fun r => !(Nat.beq r.1 52)) && M.all (fun r => !(Nat.beq r.1 88))
noncomputable def tpB (M : List Rng) : Bool := (!(rg_in M 1 1) && !(rg_in M 77 6)) && (M.all (fun r => !(Nat.beq r.1 2)) && M.all (fun r => !(Nat.beq r.1 82)))
noncomputable def relB (M : List Rng) : Bool := tpB M && kpB M
theorem KP_fr {M : List Rng} {h h' : pm_H} (hf : fr_g M h h') (hb : kpB M = true) (K : KP h) : KP h' := by
  unfold kpB at hb
  rw [Bool.and_eq_true] at hb
  intro j hj
  rw [fr_gi hf (rg_no hb.1 j), fr_gi hf (rg_no hb.2 j)]
  exact K j hj
theorem TP_frB {M : List Rng} {h h' : pm_H} (hf : fr_g M h h') (hb : tpB M = true) (T : TP h) : TP h' := by
  unfold tpB at hb
  rw [Bool.and_eq_true, Bool.and_eq_true, Bool.and_eq_true, Bool.not_eq_true', Bool.not_eq_true'] at hb
  exact TP_fr hf hb.1.1 hb.1.2 hb.2.1 hb.2.2 T
theorem REL_fr {M : List Rng} {h h' : pm_H} (hf : fr_g M h h') (hb : relB M = true) (R : REL h) : REL h' := by
  unfold relB at hb
  rw [Bool.and_eq_true] at hb
  exact ⟨TP_frB hf hb.1 R.1, KP_fr hf hb.2 R.2⟩
/-- feed: between the class's call and the reference's -/
noncomputable def half_feed (h : pm_H) (x a b c d e : Int32) : Prop := KP h ∧ ((gn h 77 6 + 20 ≤ 500 ∧ x = nJ (gn h 77 6 + 20) ∧ gn h 1 1 = gn h 77 6 + 20 ∧ (∀ j, j < gn h 77 6 → gi h 2 j = gi h 82 j) ∧ ∀ i, i < 20 → gi h 2 (gn h 77 6 + i) = b20 a b c d e i) ∨ (¬ gn h 77 6 + 20 ≤ 500 ∧ x = -1 ∧ TP h))
theorem c8_feed {h : pm_H} {a b c d e : Int32} (I : IVR h) : Sp 100 106 h [.ref 0, .int a, .int b, .int c, .int d, .int e] (fun h' r => IVh h' ∧ ∃ x : Int32, r = some (.int x) ∧ half_feed h' x a b c d e) := by
  refine Sp_le (by first | exact Nat.add_le_add_left (Nat.le_of_ble_eq_true rfl) _ | exact Nat.le_of_ble_eq_true rfl | omega) (Sp_mono ?_ (Sp_and (top_all (as := [.ref 0, .int a, .int b, .int c, .int d, .int e]) q1 (by decide +kernel) I.1 ⟨rfl, aI _, aI _, aI _, aI _, aI _, trivial⟩) (sp_feed8 (dd := 0) I.1.1)))
  rintro h' r ⟨⟨s1, s2, -⟩, s3⟩
  obtain ⟨T1, T2⟩ := I.2.1
  have e6 : gn h' 77 6 = gn h 77 6 := fr_gn s2 rfl
  have k1 : KP h' := KP_fr s2 rfl I.2.2
  rcases s3 with ⟨n1, e1, rfl⟩ | ⟨n1, e1, rfl⟩
  · obtain ⟨p1, p2, p3, p4, p5⟩ := rd20_ok (v1 := a) (v2 := b) (v3 := c) (v4 := d) (v5 := e) isT8 I.1.1 n1
    rw [← e1] at p2 p3 p4
    refine ⟨s1, _, rfl, k1, .inl ⟨by omega, by rw [e6, T1], by omega, fun j hj => ?_, fun i hi => ?_⟩⟩
    · rw [p3 j (by omega), fr_gi s2 (rg_no rfl j)]
      exact T2 j (by omega)
    · rw [e6, ← T1]
      exact p4 i hi
  · exact ⟨s1, _, rfl, k1, .inr ⟨by omega, rfl, by rw [e1]; exact I.2.1⟩⟩
theorem c9_feed {h : pm_H} {x a b c d e : Int32} (I : IVh h) (J : half_feed h x a b c d e) : Sp 100 247 h [.ref 77, .int a, .int b, .int c, .int d, .int e] (fun h' r => IVR h' ∧ r = some (.int x)) := by
  refine Sp_le (by first | exact Nat.add_le_add_left (Nat.le_of_ble_eq_true rfl) _ | exact Nat.le_of_ble_eq_true rfl | omega) (Sp_mono ?_ (Sp_and (top_all (as := [.ref 77, .int a, .int b, .int c, .int d, .int e]) q7 (by decide +kernel) I ⟨rfl, aI _, aI _, aI _, aI _, aI _, trivial⟩) (sp_feed9 (dd := 0) I.1)))
  rintro h' r ⟨⟨s1, s2, -⟩, s3⟩
  obtain ⟨k0, J⟩ := J
  have k1 : KP h' := KP_fr s2 rfl k0
  have e11 : gn h' 1 1 = gn h 1 1 := fr_gn s2 rfl
  rcases s3 with ⟨n1, e1, rfl⟩ | ⟨n1, e1, rfl⟩
  · rcases J with ⟨j1, rfl, j3, j4, j5⟩ | ⟨j1, -, -⟩
    · have hb : HH (pt h 77 0 (nJ 0)) := HH_ptn I.1 rfl (by omega) (by omega) (by omega)
      have eb : gn (pt h 77 0 (nJ 0)) 77 6 = gn h 77 6 := gn_ne (by first | exact gxx rfl | omega)
      obtain ⟨p1, p2, p3, p4, p5⟩ := rd20_ok (v1 := a) (v2 := b) (v3 := c) (v4 := d) (v5 := e) isT9 hb (by omega)
      rw [← e1] at p2 p3 p4
      refine ⟨⟨s1, ⟨by omega, fun j hj => ?_⟩, k1⟩, rfl⟩
      rw [e11] at hj
      rw [fr_gi s2 (rg_no rfl j)]
      by_cases hj2 : j < gn h 77 6
      · rw [j4 j hj2, p3 j (by omega)]
        exact (gi_ne (by first | exact gxx rfl | omega)).symm
      · have h5 := j5 (j - gn h 77 6) (by omega)
        have h4 := p4 (j - gn h 77 6) (by omega)
        rw [eb] at h4
        rw [show gn h 77 6 + (j - gn h 77 6) = j by omega] at h5 h4
        rw [h5, h4]
    · exact absurd n1 j1
  · rcases J with ⟨j1, -⟩ | ⟨j1, rfl, j3⟩
    · exact absurd j1 n1
    · exact ⟨⟨s1, TP_fr (M := [(77, 0, 0)]) (by rw [e1]; exact fr_ptr (l := 0) (u := 0) rfl (by omega) (by omega) (fr_rf _ _)) rfl rfl rfl rfl j3, k1⟩, rfl⟩
noncomputable def half_end (h : pm_H) (x v : Int32) : Prop := KP h ∧ (((0 ≤ v.toInt ∧ v.toInt ≤ ((gn h 77 6 : Nat) : Int)) ∧ x = v ∧ gn h 1 1 = v.toInt.toNat ∧ ∀ j, j < gn h 77 6 → gi h 2 j = gi h 82 j) ∨ (¬ (0 ≤ v.toInt ∧ v.toInt ≤ ((gn h 77 6 : Nat) : Int)) ∧ x = -1 ∧ TP h))
theorem c8_end {h : pm_H} {v : Int32} (I : IVR h) : Sp 100 101 h [.ref 0, .int v] (fun h' r => IVh h' ∧ ∃ x : Int32, r = some (.int x) ∧ half_end h' x v) := by
  refine Sp_le (by first | exact Nat.add_le_add_left (Nat.le_of_ble_eq_true rfl) _ | exact Nat.le_of_ble_eq_true rfl | omega) (Sp_mono ?_ (Sp_and (top_all (as := [.ref 0, .int v]) q8 (by decide +kernel) I.1 ⟨rfl, aI _, trivial⟩) (sp_end8 (d := 0) I.1.1)))
  rintro h' r ⟨⟨s1, s2, -⟩, s3⟩
  obtain ⟨T1, T2⟩ := I.2.1
  have e6 : gn h' 77 6 = gn h 77 6 := fr_gn s2 rfl
  have k1 : KP h' := KP_fr s2 rfl I.2.2
  have hn5 : gn h 1 1 ≤ 500 := gn_hi I.1.1 rfl (by decide)
  rcases s3 with ⟨n1, e1, rfl⟩ | ⟨n1, e1, rfl⟩
  · refine ⟨s1, _, rfl, k1, .inl ⟨⟨n1.1, by have := n1.2; omega⟩, rfl, ?_, fun j hj => ?_⟩⟩
    · unfold gn
      rw [e1, gi_pt I.1.1 (q := (0, 500)) rfl n1.1 (by have := n1.2; show _ ≤ (500 : Int); omega)]
    · rw [fr_gi s2 (rg_no rfl j), fr_gi s2 (rg_no rfl j)]
      exact T2 j (by omega)
  · refine ⟨s1, _, rfl, k1, .inr ⟨fun q => n1 ⟨q.1, by have := q.2; omega⟩, rfl, by rw [e1]; exact I.2.1⟩⟩
theorem c9_end {h : pm_H} {x v : Int32} (I : IVh h) (J : half_end h x v) : Sp 100 241 h [.ref 77, .int v] (fun h' r => IVR h' ∧ r = some (.int x)) := by
  refine Sp_le (by first | exact Nat.add_le_add_left (Nat.le_of_ble_eq_true rfl) _ | exact Nat.le_of_ble_eq_true rfl | omega) (Sp_mono ?_ (Sp_and (top_all (as := [.ref 77, .int v]) q10 (by decide +kernel) I ⟨rfl, aI _, trivial⟩) (sp_end9 (d := 0) I.1)))
  rintro h' r ⟨⟨s1, s2, -⟩, s3⟩
  obtain ⟨k0, J⟩ := J
  have k1 : KP h' := KP_fr s2 rfl k0
  have e11 : gn h' 1 1 = gn h 1 1 := fr_gn s2 rfl
  have hn5 : gn h 77 6 ≤ 500 := gn_hi I.1 rfl (by decide)
  rcases s3 with ⟨n1, e1, rfl⟩ | ⟨n1, e1, rfl⟩
  · rcases J with ⟨j1, rfl, j3, j4⟩ | ⟨j1, -, -⟩
    · have hb : HH (pt h 77 0 (nJ 0)) := HH_ptn I.1 rfl (by omega) (by omega) (by omega)
      have e2 : gn h' 77 6 = x.toInt.toNat := by
        unfold gn
        rw [e1, gi_pt hb (q := (0, 500)) rfl n1.1 (by have := n1.2; show _ ≤ (500 : Int); omega)]
      refine ⟨⟨s1, ⟨by omega, fun j hj => ?_⟩, k1⟩, rfl⟩
      rw [fr_gi s2 (rg_no rfl j), fr_gi s2 (rg_no rfl j)]
      exact j4 j (by have := n1.2; omega)
    · exact absurd n1 j1
  · rcases J with ⟨j1, -⟩ | ⟨j1, rfl, j3⟩
    · exact absurd j1 n1
    · exact ⟨⟨s1, TP_fr (M := [(77, 0, 0)]) (by rw [e1]; exact fr_ptr (l := 0) (u := 0) rfl (by omega) (by omega) (fr_rf _ _)) rfl rfl rfl rfl j3, k1⟩, rfl⟩
theorem sp_image8 {h : pm_H} {x : Int32} (I : IVh h) : Sp 20 121 h [.ref 0, .int x] (fun h' r => r = some (.int (imv x)) ∧ ∀ j, j < 3 → gi h' 52 j = if x = nJ j then 1 else gi h 52 j) := by
  refine Sp_of (d := 19) aiX8_image rfl rfl rfl ?_
  have L0 : pm_get (lv_args 0 [.ref 0, .int x]) 0 = some (.ref 0) := rfl
  have L1 : pm_get (lv_args 0 [.ref 0, .int x]) 1 = some (.int x) := rfl
  generalize lv_args 0 [.ref 0, .int x] = lv at L0 L1 ⊢
  refine E_il rfl L1 ?_
  by_cases hr : 0 ≤ x.toInt ∧ x.toInt ≤ 2
  · obtain ⟨k, hk, rfl⟩ := nJ_of2 (n := 2) hr.1 hr.2
    refine E_ifF rfl (decide_eq_false (nJ_lt0 (by omega))) ?_
    refine E_il rfl L1 ?_
    refine E_ci 3 rfl ci3 ?_
    refine E_icT rfl (decide_eq_true ((nJ_lt (by omega) (by omega)).mpr (by omega))) ?_
    match k, hk with
    | 0, _ =>
      refine E_al rfl L0 ?_
      refine E_ogr rfl I.1 rfl (q := 24) rfl ?_
      refine E_il rfl L1 ?_
      refine E_aal rfl I.1 rfl (q := 25) rfl (by decide) ?_
      refine E_al rfl L0 ?_
      refine E_ogr rfl I.1 rfl (q := 15) rfl ?_
      refine E_call rfl (Sp_le (by first | exact Nat.add_le_add_left (Nat.le_of_ble_eq_true rfl) _ | exact Nat.le_of_ble_eq_true rfl | omega) (Sp_sum (as := [.ref 25, .ref 15]) q904 I.1 ⟨rfl, rfl, trivial⟩ (fun _ hq => absurd hq List.not_mem_nil) (fun i hi => I.2.1 i (List.mem_of_elem_eq_true (List.all_eq_true.mp (show [41, 62].all (fun i => List.elem i CF) = true from rfl) i hi))))) (chkO (a := 25) I.1 rfl rfl rfl rfl (by show 0 ≤ 8; decide)) (fun h4 r4 => ?_)
      rintro ⟨hh4, fq4, C4, hC4, -, -, -, rv4⟩
      have e4 : r4 = none := by have e := List.mem_singleton.mp hC4; subst e; cases r4 with | none => rfl | some v => exact rv4.elim
      rw [e4]
      show Ends _ _ (25, lv, [], h4, 0, 0) _
      refine E_al rfl L0 ?_
      refine E_ogr rfl hh4 rfl (q := 52) rfl ?_
      refine E_il rfl L1 ?_
      refine E_ci 1 rfl ci1 ?_
      refine E_zasA rfl hh4 rfl (by decide) ?_
      refine E_ci 0 rfl ci0 ?_
      exact E_rti rfl ⟨by rw [imv_in hr]; rfl, kp_in hh4 rfl (by decide) (fun j => fr_gi fq4 (rg_no rfl j))⟩
    | 1, _ =>
      refine E_al rfl L0 ?_
      refine E_ogr rfl I.1 rfl (q := 24) rfl ?_
      refine E_il rfl L1 ?_
      refine E_aal rfl I.1 rfl (q := 34) rfl (by decide) ?_
      refine E_al rfl L0 ?_
      refine E_ogr rfl I.1 rfl (q := 15) rfl ?_
      refine E_call rfl (Sp_le (by first | exact Nat.add_le_add_left (Nat.le_of_ble_eq_true rfl) _ | exact Nat.le_of_ble_eq_true rfl | omega) (Sp_sum (as := [.ref 34, .ref 15]) q903 I.1 ⟨rfl, rfl, trivial⟩ (fun _ hq => absurd hq List.not_mem_nil) (fun i hi => I.2.1 i (List.mem_of_elem_eq_true (List.all_eq_true.mp (show [41, 83].all (fun i => List.elem i CF) = true from rfl) i hi))))) (chkO (a := 34) I.1 rfl rfl rfl rfl (by show 0 ≤ 8; decide)) (fun h4 r4 => ?_)
      rintro ⟨hh4, fq4, C4, hC4, -, -, -, rv4⟩
      have e4 : r4 = none := by have e := List.mem_singleton.mp hC4; subst e; cases r4 with | none => rfl | some v => exact rv4.elim
      rw [e4]
      show Ends _ _ (25, lv, [], h4, 0, 0) _
      refine E_al rfl L0 ?_
      refine E_ogr rfl hh4 rfl (q := 52) rfl ?_
      refine E_il rfl L1 ?_
      refine E_ci 1 rfl ci1 ?_
      refine E_zasA rfl hh4 rfl (by decide) ?_
      refine E_ci 0 rfl ci0 ?_
      exact E_rti rfl ⟨by rw [imv_in hr]; rfl, kp_in hh4 rfl (by decide) (fun j => fr_gi fq4 (rg_no rfl j))⟩
    | 2, _ =>
      refine E_al rfl L0 ?_
      refine E_ogr rfl I.1 rfl (q := 24) rfl ?_
      refine E_il rfl L1 ?_
      refine E_aal rfl I.1 rfl (q := 43) rfl (by decide) ?_
      refine E_al rfl L0 ?_
      refine E_ogr rfl I.1 rfl (q := 15) rfl ?_
      refine E_call rfl (Sp_le (by first | exact Nat.add_le_add_left (Nat.le_of_ble_eq_true rfl) _ | exact Nat.le_of_ble_eq_true rfl | omega) (Sp_sum (as := [.ref 43, .ref 15]) q902 I.1 ⟨rfl, rfl, trivial⟩ (fun _ hq => absurd hq List.not_mem_nil) (fun i hi => I.2.1 i (List.mem_of_elem_eq_true (List.all_eq_true.mp (show [41, 104].all (fun i => List.elem i CF) = true from rfl) i hi))))) (chkO (a := 43) I.1 rfl rfl rfl rfl (by show 0 ≤ 8; decide)) (fun h4 r4 => ?_)
      rintro ⟨hh4, fq4, C4, hC4, -, -, -, rv4⟩
      have e4 : r4 = none := by have e := List.mem_singleton.mp hC4; subst e; cases r4 with | none => rfl | some v => exact rv4.elim
      rw [e4]
      show Ends _ _ (25, lv, [], h4, 0, 0) _
      refine E_al rfl L0 ?_
      refine E_ogr rfl hh4 rfl (q := 52) rfl ?_
      refine E_il rfl L1 ?_
      refine E_ci 1 rfl ci1 ?_
      refine E_zasA rfl hh4 rfl (by decide) ?_
      refine E_ci 0 rfl ci0 ?_
      exact E_rti rfl ⟨by rw [imv_in hr]; rfl, kp_in hh4 rfl (by decide) (fun j => fr_gi fq4 (rg_no rfl j))⟩
  · have z0 : (0 : Int32).toInt = 0 := rfl
    by_cases h0 : x < 0
    · refine E_ifT rfl (decide_eq_true h0) ?_
      refine E_c rfl ?_
      exact E_rti rfl ⟨by rw [imv_no hr], kp_out hr (fun j => rfl)⟩
    · refine E_ifF rfl (decide_eq_false h0) ?_
      refine E_il rfl L1 ?_
      refine E_ci 3 rfl ci3 ?_
      refine E_icF rfl (decide_eq_false (fun q => hr ?_)) ?_
      · have q1 := Int32.lt_iff_toInt_lt.mp q
        rw [nJ_toInt (by omega)] at q1
        have q2 : ¬ x.toInt < (0 : Int32).toInt := fun z => h0 (Int32.lt_iff_toInt_lt.mpr z)
        omega
      · refine E_c rfl ?_
        exact E_rti rfl ⟨by rw [imv_no hr], kp_out hr (fun j => rfl)⟩
theorem sp_back8 {h : pm_H} {x : Int32} (I : IVh h) : Sp 20 82 h [.ref 0, .int x] (fun h' r => r = some (.int (bkv 52 h x))) := by
  refine Sp_of (d := 19) aiX8_back rfl rfl rfl ?_
  have L0 : pm_get (lv_args 0 [.ref 0, .int x]) 0 = some (.ref 0) := rfl
  have L1 : pm_get (lv_args 0 [.ref 0, .int x]) 1 = some (.int x) := rfl
  generalize lv_args 0 [.ref 0, .int x] = lv at L0 L1 ⊢
  refine E_il rfl L1 ?_
  by_cases hr : 0 ≤ x.toInt ∧ x.toInt ≤ 2
  · obtain ⟨k, hk, rfl⟩ := nJ_of2 (n := 2) hr.1 hr.2
    refine E_ifF rfl (decide_eq_false (nJ_lt0 (by omega))) ?_
    refine E_il rfl L1 ?_
    refine E_ci 3 rfl ci3 ?_
    refine E_icT rfl (decide_eq_true ((nJ_lt (by omega) (by omega)).mpr (by omega))) ?_
    refine E_al rfl L0 ?_
    refine E_ogr rfl I.1 rfl (q := 52) rfl ?_
    refine E_il rfl L1 ?_
    refine E_zalA rfl I.1 rfl (by omega) ?_
    by_cases hz : gi h 52 k = 0
    · refine E_ifF rfl (decide_eq_false (fun q => q hz)) ?_
      refine E_c rfl ?_
      exact E_rti rfl (by rw [bkv_6 hk hz])
    · refine E_ifT rfl (decide_eq_true hz) ?_
      have hb := bkv_0 hk hz
      match k, hk, hb with
      | 0, _, hb =>
        refine E_al rfl L0 ?_
        refine E_ogr rfl I.1 rfl (q := 15) rfl ?_
        refine E_al rfl L0 ?_
        refine E_ogr rfl I.1 rfl (q := 24) rfl ?_
        refine E_il rfl L1 ?_
        refine E_aal rfl I.1 rfl (q := 25) rfl (by decide) ?_
        refine E_call rfl (Sp_le (by first | exact Nat.add_le_add_left (Nat.le_of_ble_eq_true rfl) _ | exact Nat.le_of_ble_eq_true rfl | omega) (Sp_sum (as := [.ref 15, .ref 25]) q926 I.1 ⟨rfl, rfl, trivial⟩ (fun _ hq => absurd hq List.not_mem_nil) (fun i hi => I.2.1 i (List.mem_of_elem_eq_true (List.all_eq_true.mp (show [41, 62].all (fun i => List.elem i CF) = true from rfl) i hi))))) (chkO (a := 15) I.1 rfl rfl rfl rfl (by show 0 ≤ 8; decide)) (fun h4 r4 => ?_)
        rintro ⟨hh4, fq4, C4, hC4, -, -, -, rv4⟩
        have e4 : r4 = none := by have e := List.mem_singleton.mp hC4; subst e; cases r4 with | none => rfl | some v => exact rv4.elim
        rw [e4]
        show Ends _ _ (37, lv, [], h4, 0, 0) _
        refine E_ci 0 rfl ci0 ?_
        exact E_rti rfl (by rw [hb]; rfl)
      | 1, _, hb =>
        refine E_al rfl L0 ?_
        refine E_ogr rfl I.1 rfl (q := 15) rfl ?_
        refine E_al rfl L0 ?_
        refine E_ogr rfl I.1 rfl (q := 24) rfl ?_
        refine E_il rfl L1 ?_
        refine E_aal rfl I.1 rfl (q := 34) rfl (by decide) ?_
        refine E_call rfl (Sp_le (by first | exact Nat.add_le_add_left (Nat.le_of_ble_eq_true rfl) _ | exact Nat.le_of_ble_eq_true rfl | omega) (Sp_sum (as := [.ref 15, .ref 34]) q925 I.1 ⟨rfl, rfl, trivial⟩ (fun _ hq => absurd hq List.not_mem_nil) (fun i hi => I.2.1 i (List.mem_of_elem_eq_true (List.all_eq_true.mp (show [41, 83].all (fun i => List.elem i CF) = true from rfl) i hi))))) (chkO (a := 15) I.1 rfl rfl rfl rfl (by show 0 ≤ 8; decide)) (fun h4 r4 => ?_)
        rintro ⟨hh4, fq4, C4, hC4, -, -, -, rv4⟩
        have e4 : r4 = none := by have e := List.mem_singleton.mp hC4; subst e; cases r4 with | none => rfl | some v => exact rv4.elim
        rw [e4]
        show Ends _ _ (37, lv, [], h4, 0, 0) _
        refine E_ci 0 rfl ci0 ?_
        exact E_rti rfl (by rw [hb]; rfl)
      | 2, _, hb =>
        refine E_al rfl L0 ?_
        refine E_ogr rfl I.1 rfl (q := 15) rfl ?_
        refine E_al rfl L0 ?_
        refine E_ogr rfl I.1 rfl (q := 24) rfl ?_
        refine E_il rfl L1 ?_
        refine E_aal rfl I.1 rfl (q := 43) rfl (by decide) ?_
        refine E_call rfl (Sp_le (by first | exact Nat.add_le_add_left (Nat.le_of_ble_eq_true rfl) _ | exact Nat.le_of_ble_eq_true rfl | omega) (Sp_sum (as := [.ref 15, .ref 43]) q924 I.1 ⟨rfl, rfl, trivial⟩ (fun _ hq => absurd hq List.not_mem_nil) (fun i hi => I.2.1 i (List.mem_of_elem_eq_true (List.all_eq_true.mp (show [41, 104].all (fun i => List.elem i CF) = true from rfl) i hi))))) (chkO (a := 15) I.1 rfl rfl rfl rfl (by show 0 ≤ 8; decide)) (fun h4 r4 => ?_)
        rintro ⟨hh4, fq4, C4, hC4, -, -, -, rv4⟩
        have e4 : r4 = none := by have e := List.mem_singleton.mp hC4; subst e; cases r4 with | none => rfl | some v => exact rv4.elim
        rw [e4]
        show Ends _ _ (37, lv, [], h4, 0, 0) _
        refine E_ci 0 rfl ci0 ?_
        exact E_rti rfl (by rw [hb]; rfl)
  · have z0 : (0 : Int32).toInt = 0 := rfl
    by_cases h0 : x < 0
    · refine E_ifT rfl (decide_eq_true h0) ?_
      refine E_c rfl ?_
      exact E_rti rfl (by rw [bkv_no hr])
    · refine E_ifF rfl (decide_eq_false h0) ?_
      refine E_il rfl L1 ?_
      refine E_ci 3 rfl ci3 ?_
      refine E_icF rfl (decide_eq_false (fun q => hr ?_)) ?_
      · have q1 := Int32.lt_iff_toInt_lt.mp q
        rw [nJ_toInt (by omega)] at q1
        have q2 : ¬ x.toInt < (0 : Int32).toInt := fun z => h0 (Int32.lt_iff_toInt_lt.mpr z)
        omega
      · refine E_c rfl ?_
        exact E_rti rfl (by rw [bkv_no hr])
noncomputable def half_image (h : pm_H) (x v : Int32) : Prop := TP h ∧ x = imv v ∧ ∀ j, j < 3 → gi h 52 j = if v = nJ j then 1 else gi h 88 j
theorem c8_image {h : pm_H} {v : Int32} (I : IVR h) : Sp 100 121 h [.ref 0, .int v] (fun h' r => IVh h' ∧ ∃ x : Int32, r = some (.int x) ∧ half_image h' x v) := by
  refine Sp_le (by first | exact Nat.add_le_add_left (Nat.le_of_ble_eq_true rfl) _ | exact Nat.le_of_ble_eq_true rfl | omega) (Sp_mono ?_ (Sp_and (top_all (as := [.ref 0, .int v]) q905 (by decide +kernel) I.1 ⟨rfl, aI _, trivial⟩) (sp_image8 I.1)))
  rintro h' r ⟨⟨s1, s2, -⟩, rfl, s3⟩
  refine ⟨s1, _, rfl, TP_frB s2 rfl I.2.1, rfl, fun j hj => ?_⟩
  rw [s3 j hj, I.2.2 j hj, fr_gi s2 (rg_no rfl j)]
theorem c9_image {h : pm_H} {x v : Int32} (I : IVh h) (J : half_image h x v) : Sp 100 260 h [.ref 77, .int v] (fun h' r => IVR h' ∧ r = some (.int x)) := by
  refine Sp_le (by first | exact Nat.add_le_add_left (Nat.le_of_ble_eq_true rfl) _ | exact Nat.le_of_ble_eq_true rfl | omega) (Sp_mono ?_ (tv_image (d := 0) I.1 I.2.2))
  rintro h' r ⟨a1, a2, a3, rfl, a5⟩
  obtain ⟨j1, rfl, j3⟩ := J
  refine ⟨⟨IVh_fr (M := VMI) (by decide +kernel) a2 a1 I a3, TP_frB a2 rfl j1, fun j hj => ?_⟩, rfl⟩
  rw [a5 j hj, fr_gi a2 (rg_no rfl j)]
  exact j3 j hj
theorem bkv_eq {A B : Nat} {h g : pm_H} {v : Int32} (e : ∀ j, j < 3 → gi h A j = gi g B j) : bkv A h v = bkv B g v := by
  unfold bkv
  by_cases q : 0 ≤ v.toInt ∧ v.toInt ≤ 2
  · rw [if_pos q, if_pos q, e _ (by omega)]
  · rw [if_neg q, if_neg q]
noncomputable def half_back (h : pm_H) (x v : Int32) : Prop := REL h ∧ x = bkv 88 h v
theorem c8_back {h : pm_H} {v : Int32} (I : IVR h) : Sp 100 82 h [.ref 0, .int v] (fun h' r => IVh h' ∧ ∃ x : Int32, r = some (.int x) ∧ half_back h' x v) := by
  refine Sp_le (by first | exact Nat.add_le_add_left (Nat.le_of_ble_eq_true rfl) _ | exact Nat.le_of_ble_eq_true rfl | omega) (Sp_mono ?_ (Sp_and (top_all (as := [.ref 0, .int v]) q927 (by decide +kernel) I.1 ⟨rfl, aI _, trivial⟩) (sp_back8 I.1)))
  rintro h' r ⟨⟨s1, s2, -⟩, rfl⟩
  refine ⟨s1, _, rfl, REL_fr s2 rfl I.2, bkv_eq (fun j hj => ?_)⟩
  rw [fr_gi s2 (rg_no rfl j)]
  exact I.2.2 j hj
theorem c9_back {h : pm_H} {x v : Int32} (I : IVh h) (J : half_back h x v) : Sp 100 212 h [.ref 77, .int v] (fun h' r => IVR h' ∧ r = some (.int x)) := by
  refine Sp_le (by first | exact Nat.add_le_add_left (Nat.le_of_ble_eq_true rfl) _ | exact Nat.le_of_ble_eq_true rfl | omega) (Sp_mono ?_ (tv_back (d := 0) I.1 I.2.2))
  rintro h' r ⟨a1, a2, a3, rfl⟩
  obtain ⟨j1, rfl⟩ := J
  exact ⟨⟨IVh_fr (M := VM) (by decide +kernel) a2 a1 I a3, REL_fr a2 rfl j1⟩, rfl⟩
theorem IVR_hp0 : IVR hp0 := ⟨IVh_hp0, ⟨rfl, fun j hj => absurd hj (Nat.not_lt_zero j)⟩, fun _ _ => rfl⟩
end
section
/-! by hand: the class's paste -/
theorem E_cpy {look : Nat → Option pm_I} {call : pm_Call} {Q : pm_H → Option Value → Prop} {pc n : Nat} {lv : List (Nat × Value)} {st : List Value} {h : pm_H} {z : Nat × Nat} {a0 a1 : Nat} {sp dp m : Int32} (h1 : look pc = some (.inl (s_copy n))) (hh : HH h) (c0 : hs0[a0]? = some (.inr (.inl 60))) (c1 : hs0[a1]? = some (.inr (.inl 60))) (k1 : 0 ≤ sp.toInt) (k2 : 0 ≤ dp.toInt) (k3 : 0 ≤ m.toInt) (k4 : sp.toInt + m.toInt ≤ 60) (k5 : dp.toInt + m.toInt ≤ 60) (hs : Nat.ble (pm_sz st) 8 = true) (kk : ∀ h', HH h' → fr_g [(a1, 0, 59)] h h' → Ends look call (n, lv, st, h', z) Q) : Ends look call (pc, lv, .int m :: .int dp :: .ref a1 :: .int sp :: .ref a0 :: st, h, z) Q := by
  obtain ⟨x, hx, hg⟩ := hs_at hh c0
  obtain ⟨y, hy, hk⟩ := hs_at hh c1
  match x, hx, hg, y, hy, hk with
  | .inl (t2, len2, .inr (.inl f)), hx, hg, .inl (t3, len3, .inr (.inl g)), hy, hk =>
    obtain ⟨rfl, rfl⟩ := hg
    obtain ⟨rfl, rfl⟩ := hk
    have z0 : (0 : Int32).toInt = 0 := rfl
    have n1 : ∀ w : Int32, 0 ≤ w.toInt → (!(decide (w < 0))) = true := fun w hw => by
      rw [decide_eq_false (fun q => by have := Int32.lt_iff_toInt_lt.mp q; omega)]; rfl
    have e1 : sp.toNatClampNeg = sp.toInt.toNat := rfl
    have e2 : dp.toNatClampNeg = dp.toInt.toNat := rfl
    have e3 : m.toNatClampNeg = m.toInt.toNat := rfl
    have b1 : Nat.ble (sp.toNatClampNeg + m.toNatClampNeg) 60 = true := Nat.ble_eq_true_of_le (by rw [e1, e3]; omega)
    have b2 : Nat.ble (dp.toNatClampNeg + m.toNatClampNeg) 60 = true := Nat.ble_eq_true_of_le (by rw [e2, e3]; omega)
    refine E_st h1 (σ' := (n, lv, st, h.set a1 (.inl (3, 60, .inr (.inl (va_cpy f g sp.toNatClampNeg dp.toNatClampNeg m.toNatClampNeg)))), z)) ?_ (kk _ (hs_set hh c1 ⟨rfl, rfl⟩) ?_)
    · simp only [s_copy, hx, hy, n1 sp k1, n1 dp k2, n1 m k3, b1, b2, hs, Bool.and_self, cond_true]
    · intro b j hbj
      by_cases e : b = a1
      · subst e
        have hj : ¬ j ≤ 59 := fun hj => by
          rw [rg_in_one (Nat.zero_le _) hj (List.mem_singleton_self _)] at hbj
          cases hbj
        have e9 : va_cpy f g sp.toNatClampNeg dp.toNatClampNeg m.toNatClampNeg j = g j := by
          unfold va_cpy
          rw [if_neg (by rw [e2, e3]; omega)]
        unfold ld
        rw [List.getElem?_set_self (List.getElem?_eq_some_iff.mp hy).1, hy]
        dsimp only
        rw [e9]
      · unfold ld
        rw [List.getElem?_set_ne (Ne.symm e)]
/-- so many numbers from there on lie in the slot -/
noncomputable def hol (h : pm_H) (a : Nat) (f n : Int32) : Prop := 0 ≤ f.toInt ∧ 0 ≤ n.toInt ∧ f.toInt + n.toInt ≤ (gi h a 3).toInt
section PS
variable {h : pm_H} {d a c k : Nat} {x : Int32}
theorem sp_holds {f n : Int32} (hh : HH h) (S : isS a c) : Sp (d + 1) 45 h [.ref a, .int f, .int n] (fun h' r => h' = h ∧ ((hol h a f n ∧ r = some (.int 1)) ∨ (¬ hol h a f n ∧ r = some (.int 0)))) := by
  obtain ⟨S1, S2, S3, S4, S5, S6⟩ := S
  refine Sp_of aiX4_holds rfl rfl rfl ?_
  have L0 : pm_get (lv_args 0 [.ref a, .int f, .int n]) 0 = some (.ref a) := rfl
  have L1 : pm_get (lv_args 0 [.ref a, .int f, .int n]) 1 = some (.int f) := rfl
  have L2 : pm_get (lv_args 0 [.ref a, .int f, .int n]) 2 = some (.int n) := rfl
  generalize lv_args 0 [.ref a, .int f, .int n] = lv at L0 L1 L2 ⊢
  have z0 : (0 : Int32).toInt = 0 := rfl
  have no : ∀ {lv : List (Nat × Value)}, ¬ hol h a f n → Ends (pm_at tX4_holds) (pm_Rt pm_P d) (22, lv, [], h, 0, 0) (fun h' r => h' = h ∧ ((hol h a f n ∧ r = some (.int 1)) ∨ (¬ hol h a f n ∧ r = some (.int 0)))) := by
    intro lv hn
    refine E_ci 0 rfl ci0 ?_
    exact E_rtz rfl (.inl rfl) ⟨rfl, .inr ⟨hn, rfl⟩⟩
  refine E_il rfl L1 ?_
  by_cases b1 : f < 0
  · have q := Int32.lt_iff_toInt_lt.mp b1
    refine E_ifT rfl (decide_eq_true b1) ?_
    exact no (fun z => by have := z.1; omega)
  · have q1 : ¬ f.toInt < (0 : Int32).toInt := fun z => b1 (Int32.lt_iff_toInt_lt.mpr z)
    refine E_ifF rfl (decide_eq_false b1) ?_
    refine E_il rfl L2 ?_
    by_cases b2 : n < 0
    · have q := Int32.lt_iff_toInt_lt.mp b2
      refine E_ifT rfl (decide_eq_true b2) ?_
      exact no (fun z => by have := z.2.1; omega)
    · have q2 : ¬ n.toInt < (0 : Int32).toInt := fun z => b2 (Int32.lt_iff_toInt_lt.mpr z)
      refine E_ifF rfl (decide_eq_false b2) ?_
      refine E_il rfl L1 ?_
      refine E_al rfl L0 ?_
      refine E_ogf rfl hh S1 S6 rfl ?_
      refine E_il rfl L2 ?_
      refine E_bin rfl rfl ?_
      have g := (ld_gi hh S6).2
      dsimp only at g
      have hn := ai_hi n
      have es : (gi h a 3 - n).toInt = (gi h a 3).toInt - n.toInt := by
        rw [Int32.toInt_sub]
        exact Int.bmod_eq_of_le (by omega) (by omega)
      by_cases b3 : gi h a 3 - n < f
      · have q := Int32.lt_iff_toInt_lt.mp b3
        refine E_icT rfl (decide_eq_true b3) ?_
        exact no (fun z => by have := z.2.2; omega)
      · have q3 : ¬ (gi h a 3 - n).toInt < f.toInt := fun z => b3 (Int32.lt_iff_toInt_lt.mpr z)
        refine E_icF rfl (decide_eq_false b3) ?_
        refine E_ci 1 rfl ci1 ?_
        refine E_goto rfl ?_
        exact E_rtz rfl (.inr rfl) ⟨rfl, .inl ⟨⟨by omega, by omega, by omega⟩, rfl⟩⟩
/-- what paste answers -/
noncomputable def psv (h : pm_H) (a i b k n : Int32) (r : Int32) : Prop :=
  (¬ ((0 ≤ a.toInt ∧ a.toInt ≤ 3) ∧ 0 ≤ b.toInt ∧ b.toInt ≤ 3) ∧ r = -2) ∨ ∃ s t, s < 4 ∧ t < 4 ∧ a = nJ s ∧ b = nJ t ∧
    (((gi h (54 + 2 * s) 1 = 0 ∨ gi h (54 + 2 * t) 1 = 0) ∧ r = -6) ∨ (¬ (gi h (54 + 2 * s) 1 = 0 ∨ gi h (54 + 2 * t) 1 = 0) ∧
      ((¬ gi h (54 + 2 * s) 2 = gi h (54 + 2 * t) 2 ∧ r = -8) ∨ (gi h (54 + 2 * s) 2 = gi h (54 + 2 * t) 2 ∧
        ((¬ (hol h (54 + 2 * s) i n ∧ hol h (54 + 2 * t) k n) ∧ r = -7) ∨ ((hol h (54 + 2 * s) i n ∧ hol h (54 + 2 * t) k n) ∧ r = 0))))))
noncomputable def PM : List Rng := [(55, 0, 59), (57, 0, 59), (59, 0, 59), (61, 0, 59)]
theorem PM_at {h h' : pm_H} : ∀ t, t < 4 → fr_g [(55 + 2 * t, 0, 59)] h h' → fr_g PM h h'
  | 0, _, hf => fr_wk rfl hf
  | 1, _, hf => fr_wk rfl hf
  | 2, _, hf => fr_wk rfl hf
  | 3, _, hf => fr_wk rfl hf
  | s + 4, hs, _ => absurd hs (by omega)
noncomputable def PQ (h : pm_H) (a i b k n : Int32) (h' : pm_H) (r : Option Value) : Prop := HH h' ∧ fr_g PM h h' ∧ ∃ x : Int32, r = some (.int x) ∧ psv h a i b k n x
theorem sp_paste8 {x i y j n : Int32} (hh : HH h) : Sp (d + 2) 158 h [.ref 0, .int x, .int i, .int y, .int j, .int n] (PQ h x i y j n) := by
  refine Sp_of aiX8_paste rfl rfl rfl ?_
  have L0 : pm_get (lv_args 0 [.ref 0, .int x, .int i, .int y, .int j, .int n]) 0 = some (.ref 0) := rfl
  have L1 : pm_get (lv_args 0 [.ref 0, .int x, .int i, .int y, .int j, .int n]) 1 = some (.int x) := rfl
  have L2 : pm_get (lv_args 0 [.ref 0, .int x, .int i, .int y, .int j, .int n]) 2 = some (.int i) := rfl
  have L3 : pm_get (lv_args 0 [.ref 0, .int x, .int i, .int y, .int j, .int n]) 3 = some (.int y) := rfl
  have L4 : pm_get (lv_args 0 [.ref 0, .int x, .int i, .int y, .int j, .int n]) 4 = some (.int j) := rfl
  have L5 : pm_get (lv_args 0 [.ref 0, .int x, .int i, .int y, .int j, .int n]) 5 = some (.int n) := rfl
  generalize lv_args 0 [.ref 0, .int x, .int i, .int y, .int j, .int n] = lv at L0 L1 L2 L3 L4 L5 ⊢
  have no : ∀ {lv : List (Nat × Value)}, ¬ ((0 ≤ x.toInt ∧ x.toInt ≤ 3) ∧ 0 ≤ y.toInt ∧ y.toInt ≤ 3) → Ends (pm_at tX8_paste) (pm_Rt pm_P (d + 1)) (14, lv, [], h, 0, 0) (PQ h x i y j n) := by
    intro lv hn
    refine E_c rfl ?_
    exact E_rti rfl ⟨hh, fr_rf _ _, _, rfl, .inl ⟨hn, rfl⟩⟩
  refine E_il rfl L1 ?_
  refine E_call rfl (sp_isSlot8 (d := d)) (chkS rfl (by show 0 ≤ 8; decide)) (fun h1 r1 => ?_)
  rintro ⟨e1, rv⟩
  rw [e1]
  rcases rv with ⟨a0, a3, hr⟩ | ⟨an, hr⟩
  · rw [hr]
    refine E_ifF rfl (by decide) ?_
    refine E_il rfl L3 ?_
    refine E_call rfl (sp_isSlot8 (d := d)) (chkS rfl (by show 0 ≤ 8; decide)) (fun h2 r2 => ?_)
    rintro ⟨e2, rw2⟩
    rw [e2]
    rcases rw2 with ⟨c0, c3, hr2⟩ | ⟨cn, hr2⟩
    · rw [hr2]
      refine E_ifT rfl (by decide) ?_
      obtain ⟨s, hs, rfl⟩ : ∃ s, s < 4 ∧ x = nJ s := ⟨x.toInt.toNat, by omega, nJ_of a0⟩
      obtain ⟨t, ht, rfl⟩ : ∃ s, s < 4 ∧ y = nJ s := ⟨y.toInt.toNat, by omega, nJ_of c0⟩
      obtain ⟨S1, S2, S3, S4, S5, S6⟩ := isS_at s hs
      obtain ⟨T1, T2, T3, T4, T5, T6⟩ := isS_at t ht
      have fin : ∀ {r : Int32}, (((gi h (54 + 2 * s) 1 = 0 ∨ gi h (54 + 2 * t) 1 = 0) ∧ r = -6) ∨ (¬ (gi h (54 + 2 * s) 1 = 0 ∨ gi h (54 + 2 * t) 1 = 0) ∧
      ((¬ gi h (54 + 2 * s) 2 = gi h (54 + 2 * t) 2 ∧ r = -8) ∨ (gi h (54 + 2 * s) 2 = gi h (54 + 2 * t) 2 ∧
        ((¬ (hol h (54 + 2 * s) i n ∧ hol h (54 + 2 * t) j n) ∧ r = -7) ∨ ((hol h (54 + 2 * s) i n ∧ hol h (54 + 2 * t) j n) ∧ r = 0)))))) → psv h (nJ s) i (nJ t) j n r := fun q => .inr ⟨s, t, hs, ht, rfl, rfl, q⟩
      refine E_al rfl L0 ?_
      refine E_ogr rfl hh rfl (q := 53) rfl ?_
      refine E_il rfl L1 ?_
      refine E_aal rfl hh rfl (slot_at s hs) (by decide) ?_
      refine E_asr rfl (fun lv1 M6 kp => ?_)
      have M0 := kp 0 _ (nbz rfl) rfl L0
      have M2 := kp 2 _ (nbz rfl) rfl L2
      have M3 := kp 3 _ (nbz rfl) rfl L3
      have M4 := kp 4 _ (nbz rfl) rfl L4
      have M5 := kp 5 _ (nbz rfl) rfl L5
      refine E_al rfl M0 ?_
      refine E_ogr rfl hh rfl (q := 53) rfl ?_
      refine E_il rfl M3 ?_
      refine E_aal rfl hh rfl (slot_at t ht) (by decide) ?_
      refine E_asr rfl (fun lv2 N7 kp2 => ?_)
      have N2 := kp2 2 _ (nbz rfl) rfl M2
      have N4 := kp2 4 _ (nbz rfl) rfl M4
      have N5 := kp2 5 _ (nbz rfl) rfl M5
      have N6 := kp2 6 _ (nbz rfl) rfl M6
      refine E_al rfl N6 ?_
      refine E_ogf rfl hh S1 S4 rfl ?_
      by_cases b1 : gi h (54 + 2 * s) 1 = 0
      · refine E_ifT rfl (decide_eq_true b1) ?_
        refine E_c rfl ?_
        exact E_rti rfl ⟨hh, fr_rf _ _, _, rfl, fin (.inl ⟨.inl b1, rfl⟩)⟩
      refine E_ifF rfl (decide_eq_false b1) ?_
      refine E_al rfl N7 ?_
      refine E_ogf rfl hh T1 T4 rfl ?_
      by_cases b2 : gi h (54 + 2 * t) 1 = 0
      · refine E_ifF rfl (decide_eq_false (fun q => q b2)) ?_
        refine E_c rfl ?_
        exact E_rti rfl ⟨hh, fr_rf _ _, _, rfl, fin (.inl ⟨.inr b2, rfl⟩)⟩
      refine E_ifT rfl (decide_eq_true b2) ?_
      have b12 : ¬ (gi h (54 + 2 * s) 1 = 0 ∨ gi h (54 + 2 * t) 1 = 0) := fun q => q.elim b1 b2
      refine E_al rfl N6 ?_
      refine E_ogf rfl hh S1 S5 rfl ?_
      refine E_al rfl N7 ?_
      refine E_ogf rfl hh T1 T5 rfl ?_
      by_cases b3 : gi h (54 + 2 * s) 2 = gi h (54 + 2 * t) 2
      · refine E_icT rfl (decide_eq_true b3) ?_
        have fin7 : ∀ {lv : List (Nat × Value)}, ¬ (hol h (54 + 2 * s) i n ∧ hol h (54 + 2 * t) j n) → Ends (pm_at tX8_paste) (pm_Rt pm_P (d + 1)) (91, lv, [], h, 0, 0) (PQ h (nJ s) i (nJ t) j n) := by
          intro lv hn
          refine E_c rfl ?_
          exact E_rti rfl ⟨hh, fr_rf _ _, _, rfl, fin (.inr ⟨b12, .inr ⟨b3, .inl ⟨hn, rfl⟩⟩⟩)⟩
        refine E_al rfl N6 ?_
        refine E_il rfl N2 ?_
        refine E_il rfl N5 ?_
        refine E_call rfl (sp_holds (d := d) hh (isS_at s hs)) (chkO (a := 54 + 2 * s) hh S1 rfl rfl rfl (by show 0 ≤ 8; decide)) (fun h3 r3 => ?_)
        rintro ⟨e3, rw3⟩
        rw [e3]
        rcases rw3 with ⟨o3, hr3⟩ | ⟨o3, hr3⟩
        · rw [hr3]
          refine E_ifF rfl (by decide) ?_
          refine E_al rfl N7 ?_
          refine E_il rfl N4 ?_
          refine E_il rfl N5 ?_
          refine E_call rfl (sp_holds (d := d) hh (isS_at t ht)) (chkO (a := 54 + 2 * t) hh T1 rfl rfl rfl (by show 0 ≤ 8; decide)) (fun h4 r4 => ?_)
          rintro ⟨e4, rw4⟩
          rw [e4]
          rcases rw4 with ⟨o4, hr4⟩ | ⟨o4, hr4⟩
          · rw [hr4]
            refine E_ifT rfl (by decide) ?_
            have g6 := (ld_gi hh S6).2
            have t6 := (ld_gi hh T6).2
            dsimp only at g6 t6
            have u1 := o3.2.2
            have u2 := o4.2.2
            refine E_al rfl N6 ?_
            refine E_ogr rfl hh S1 S2 ?_
            refine E_il rfl N2 ?_
            refine E_al rfl N7 ?_
            refine E_ogr rfl hh T1 T2 ?_
            refine E_il rfl N4 ?_
            refine E_il rfl N5 ?_
            refine E_cpy rfl hh S3 T3 o3.1 o4.1 o3.2.1 (by omega) (by omega) rfl (fun h5 hh5 fr5 => ?_)
            refine E_ci 0 rfl ci0 ?_
            exact E_rti rfl ⟨hh5, PM_at t ht fr5, _, rfl, fin (.inr ⟨b12, .inr ⟨b3, .inr ⟨⟨o3, o4⟩, rfl⟩⟩⟩)⟩
          · rw [hr4]
            refine E_ifF rfl (by decide) ?_
            exact fin7 (fun q => o4 q.2)
        · rw [hr3]
          refine E_ifT rfl (by decide) ?_
          exact fin7 (fun q => o3 q.1)
      · refine E_icF rfl (decide_eq_false b3) ?_
        refine E_c rfl ?_
        exact E_rti rfl ⟨hh, fr_rf _ _, _, rfl, fin (.inr ⟨b12, .inl ⟨b3, rfl⟩⟩)⟩
    · rw [hr2]
      refine E_ifF rfl (by decide) ?_
      exact no (fun q => cn q.2)
  · rw [hr]
    refine E_ifT rfl (by decide) ?_
    exact no (fun q => an q.1)
end PS
end
section
/-! row of class and reference by hand; the relation of the slots (wants t25, E_aal, t29, sp_isSlot) -/
/-- a slot begun anew -/
noncomputable def BQ (a c w n : Nat) (h h' : pm_H) (r : Option Value) : Prop := r = none ∧ HH h' ∧ fr_g [(a, 1, 3), (c, 0, 59)] h h' ∧ gi h' a 1 = 1 ∧ gi h' a 2 = nJ w ∧ gi h' a 3 = nJ n
theorem bg_loop {a c w n d : Nat} {h0 : pm_H} (hac : a ≠ c) (S : isS a c) (hn : n ≤ 60) (j : Nat) : ∀ {h : pm_H} {i : Nat} (lv : List (Nat × Value)), i + j = n → HH h → fr_g [(a, 1, 3), (c, 0, 59)] h0 h → gi h a 1 = 1 → gi h a 2 = nJ w → gi h a 3 = nJ n → pm_get lv 0 = some (.ref a) → pm_get lv 2 = some (.int (nJ n)) → pm_get lv 3 = some (.int (nJ i)) → Ends (pm_at tX4_begin) (pm_Rt pm_P d) (17, lv, [], h, 0, 0) (BQ a c w n h0) := by
  obtain ⟨S1, S2, S3, S4, S5, S6⟩ := S
  induction j with
  | zero =>
    intro h i lv hj hh hf g1 g2 g3 L0 L2 L3
    refine E_il rfl L3 ?_
    refine E_il rfl L2 ?_
    refine E_icT rfl (decide_eq_true ((nJ_le (by omega) (by omega)).mpr (by omega))) ?_
    exact E_ret rfl ⟨rfl, hh, hf, g1, g2, g3⟩
  | succ j ih =>
    intro h i lv hj hh hf g1 g2 g3 L0 L2 L3
    refine E_il rfl L3 ?_
    refine E_il rfl L2 ?_
    refine E_icF rfl (decide_eq_false (fun q => absurd ((nJ_le (by omega) (by omega)).mp q) (by omega))) ?_
    refine E_al rfl L0 ?_
    refine E_ogr rfl hh S1 S2 ?_
    refine E_il rfl L3 ?_
    refine E_c rfl ?_
    refine E_las rfl hh S3 (by omega) (by decide) (fun h1 hh1 f1 _ => ?_)
    have no : ∀ k, rg_in [(c, i, i)] a k = false := fun k => rg_no (by have e : Nat.beq c a = false := (by cases hq : Nat.beq c a with | false => rfl | true => exact absurd (Nat.eq_of_beq_eq_true hq).symm hac); simp [e]) k
    refine E_inc rfl L3 (nJ_inc _) (fun lv1 K3 kp => ?_)
    refine E_goto rfl ?_
    exact ih lv1 (by omega) hh1 (fr_trans hf (fr_one (l := 0) (u := 59) (by unfold rg_sub; simp) (Nat.zero_le _) (by omega) f1)) (by rw [fr_gi f1 (no 1)]; exact g1) (by rw [fr_gi f1 (no 2)]; exact g2) (by rw [fr_gi f1 (no 3)]; exact g3) (kp 0 _ (nbz rfl) rfl L0) (kp 2 _ (nbz rfl) rfl L2) K3
theorem sp_begin {h : pm_H} {a c w n d : Nat} (hac : a ≠ c) (S : isS a c) (hh : HH h) (hw : w ≤ 3) (hn : n ≤ 60) : Sp (d + 1) 44 h [.ref a, .int (nJ w), .int (nJ n)] (BQ a c w n h) := by
  have S0 := S
  obtain ⟨S1, S2, S3, S4, S5, S6⟩ := S
  refine Sp_of aiX4_begin rfl rfl rfl ?_
  have L0 : pm_get (lv_args 0 [.ref a, .int (nJ w), .int (nJ n)]) 0 = some (.ref a) := rfl
  have L1 : pm_get (lv_args 0 [.ref a, .int (nJ w), .int (nJ n)]) 1 = some (.int (nJ w)) := rfl
  have L2 : pm_get (lv_args 0 [.ref a, .int (nJ w), .int (nJ n)]) 2 = some (.int (nJ n)) := rfl
  generalize lv_args 0 [.ref a, .int (nJ w), .int (nJ n)] = lv at L0 L1 L2 ⊢
  refine E_al rfl L0 ?_
  refine E_c rfl ?_
  refine E_opT rfl rfl hh S1 S4 ?_
  have h1 : HH (pt h a 1 1) := HH_pt hh S4 (by decide) (by decide)
  refine E_al rfl L0 ?_
  refine E_il rfl L1 ?_
  refine E_opf rfl h1 S1 S5 ?_
  have h2 : HH (pt (pt h a 1 1) a 2 (nJ w)) := HH_ptn h1 S5 (by omega) (by omega) (by omega)
  refine E_al rfl L0 ?_
  refine E_il rfl L2 ?_
  refine E_opf rfl h2 S1 S6 ?_
  have h3 : HH (pt (pt (pt h a 1 1) a 2 (nJ w)) a 3 (nJ n)) := HH_ptn h2 S6 (by omega) (by omega) (by omega)
  refine E_ci 0 rfl ci0 ?_
  refine E_is rfl (fun lv1 K3 kp => ?_)
  refine bg_loop hac S0 hn n (i := 0) lv1 (by omega) h3 ?_ ?_ ?_ ?_ (kp 0 _ (nbz rfl) rfl L0) (kp 2 _ (nbz rfl) rfl L2) K3
  · refine fr_ptr (l := 1) (u := 3) (by unfold rg_sub; simp) (by omega) (by omega) (fr_ptr (l := 1) (u := 3) (by unfold rg_sub; simp) (by omega) (by omega) (fr_ptr (l := 1) (u := 3) (by unfold rg_sub; simp) (by omega) (by omega) (fr_rf _ _)))
  · rw [gi_ne (by first | exact gxx rfl | omega), gi_ne (by first | exact gxx rfl | omega)]; exact gi_pt hh S4 (by decide) (by decide)
  · rw [gi_ne (by first | exact gxx rfl | omega)]; exact gi_pt h1 S5 (by rw [nJ_toInt (by omega)]; show (0 : Int) ≤ _; omega) (by rw [nJ_toInt (by omega)]; show _ ≤ (3 : Int); omega)
  · exact gi_pt h2 S6 (by rw [nJ_toInt (by omega)]; show (0 : Int) ≤ _; omega) (by rw [nJ_toInt (by omega)]; show _ ≤ (60 : Int); omega)
/-- what row answers -/
noncomputable def rowv (a b c : Int32) : Int32 := if a.toInt < 0 ∨ 3 < a.toInt ∨ b.toInt < 0 ∨ 3 < b.toInt ∨ 60 < c.toInt then -2 else if c.toInt < 0 then -3 else 0
noncomputable def rin (a b c : Int32) : Prop := (0 ≤ a.toInt ∧ a.toInt ≤ 3) ∧ (0 ≤ b.toInt ∧ b.toInt ≤ 3) ∧ 0 ≤ c.toInt ∧ c.toInt ≤ 60
theorem rowv_2 {a b c : Int32} (q : a.toInt < 0 ∨ 3 < a.toInt ∨ b.toInt < 0 ∨ 3 < b.toInt ∨ 60 < c.toInt) : rowv a b c = -2 ∧ ¬ rin a b c := ⟨if_pos q, fun z => by obtain ⟨z1, z2, z3⟩ := z; omega⟩
theorem rowv_3 {a b c : Int32} (q : ¬ (a.toInt < 0 ∨ 3 < a.toInt ∨ b.toInt < 0 ∨ 3 < b.toInt ∨ 60 < c.toInt)) (q2 : c.toInt < 0) : rowv a b c = -3 ∧ ¬ rin a b c := ⟨(if_neg q).trans (if_pos q2), fun z => by obtain ⟨z1, z2, z3⟩ := z; omega⟩
theorem rowv_0 {a b c : Int32} (q : rin a b c) : rowv a b c = 0 := (if_neg (by obtain ⟨z1, z2, z3⟩ := q; omega)).trans (if_neg (by obtain ⟨z1, z2, z3⟩ := q; omega))
noncomputable def RQ8 (x y v : Int32) (h h' : pm_H) (r : Option Value) : Prop := r = some (.int (rowv x y v)) ∧ ((rin x y v ∧ HH h' ∧ ∃ s, s < 4 ∧ x = nJ s ∧ fr_g [(54 + 2 * s, 1, 3), (55 + 2 * s, 0, 59)] h h' ∧ gi h' (54 + 2 * s) 1 = 1 ∧ gi h' (54 + 2 * s) 2 = y ∧ gi h' (54 + 2 * s) 3 = v) ∨ (¬ rin x y v ∧ h' = h))
theorem sp_row8 {h : pm_H} {d : Nat} {x y v : Int32} (hh : HH h) : Sp (d + 2) 171 h [.ref 0, .int x, .int y, .int v] (RQ8 x y v h) := by
  refine Sp_of aiX8_row rfl rfl rfl ?_
  have L0 : pm_get (lv_args 0 [.ref 0, .int x, .int y, .int v]) 0 = some (.ref 0) := rfl
  have L1 : pm_get (lv_args 0 [.ref 0, .int x, .int y, .int v]) 1 = some (.int x) := rfl
  have L2 : pm_get (lv_args 0 [.ref 0, .int x, .int y, .int v]) 2 = some (.int y) := rfl
  have L3 : pm_get (lv_args 0 [.ref 0, .int x, .int y, .int v]) 3 = some (.int v) := rfl
  generalize lv_args 0 [.ref 0, .int x, .int y, .int v] = lv at L0 L1 L2 L3 ⊢
  have z0 : (0 : Int32).toInt = 0 := rfl
  have no : (x.toInt < 0 ∨ 3 < x.toInt ∨ y.toInt < 0 ∨ 3 < y.toInt ∨ 60 < v.toInt) → Ends (pm_at tX8_row) (pm_Rt pm_P (d + 1)) (22, lv, [], h, 0, 0) (RQ8 x y v h) := by
    intro q
    refine E_c rfl ?_
    exact E_rti rfl ⟨by rw [(rowv_2 q).1], .inr ⟨(rowv_2 q).2, rfl⟩⟩
  refine E_il rfl L1 ?_
  refine E_call rfl (sp_isSlot8 (d := d)) (chkS rfl (by show 0 ≤ 8; decide)) (fun h1 r1 => ?_)
  rintro ⟨e1, rv⟩
  rw [e1]
  rcases rv with ⟨a0, a3, hr⟩ | ⟨an, hr⟩
  · rw [hr]
    refine E_ifF rfl (by decide) ?_
    refine E_il rfl L2 ?_
    by_cases b1 : y < 0
    · have q := Int32.lt_iff_toInt_lt.mp b1
      refine E_ifT rfl (decide_eq_true b1) ?_
      exact no (by omega)
    have q1 : ¬ y.toInt < (0 : Int32).toInt := fun w => b1 (Int32.lt_iff_toInt_lt.mpr w)
    refine E_ifF rfl (decide_eq_false b1) ?_
    refine E_il rfl L2 ?_
    refine E_ci 4 rfl ci4 ?_
    by_cases b2 : nJ 4 ≤ y
    · have q := Int32.le_iff_toInt_le.mp b2
      rw [nJ_toInt (by omega)] at q
      refine E_icT rfl (decide_eq_true b2) ?_
      exact no (by omega)
    have q2 : ¬ (nJ 4).toInt ≤ y.toInt := fun w => b2 (Int32.le_iff_toInt_le.mpr w)
    rw [nJ_toInt (by omega)] at q2
    refine E_icF rfl (decide_eq_false b2) ?_
    refine E_il rfl L3 ?_
    refine E_ci 60 rfl ci60 ?_
    by_cases b3 : v ≤ nJ 60
    · have q3 := Int32.le_iff_toInt_le.mp b3
      rw [nJ_toInt (by omega)] at q3
      refine E_icT rfl (decide_eq_true b3) ?_
      refine E_il rfl L3 ?_
      by_cases b4 : 0 ≤ v
      · have q4 := Int32.le_iff_toInt_le.mp b4
        refine E_ifT rfl (decide_eq_true b4) ?_
        have hr : rin x y v := ⟨⟨a0, a3⟩, ⟨by omega, by omega⟩, by omega, by omega⟩
        obtain ⟨s, hs, rfl⟩ : ∃ s, s < 4 ∧ x = nJ s := ⟨x.toInt.toNat, by omega, nJ_of a0⟩
        obtain ⟨w, hw, rfl⟩ : ∃ s, s ≤ 3 ∧ y = nJ s := ⟨y.toInt.toNat, by omega, nJ_of (by omega)⟩
        obtain ⟨n, hn, rfl⟩ : ∃ s, s ≤ 60 ∧ v = nJ s := ⟨v.toInt.toNat, by omega, nJ_of (by omega)⟩
        have S := isS_at s hs
        refine E_al rfl L0 ?_
        refine E_ogr rfl hh rfl (q := 53) rfl ?_
        refine E_il rfl L1 ?_
        refine E_aal rfl hh rfl (slot_at s hs) (by decide) ?_
        refine E_il rfl L2 ?_
        refine E_il rfl L3 ?_
        refine E_call rfl (sp_begin (d := d) (by omega) S hh hw hn) (chkO (a := 54 + 2 * s) hh S.1 rfl rfl rfl (by show 0 ≤ 8; decide)) (fun h2 r2 => ?_)
        rintro ⟨e2, hh2, f2, g1, g2, g3⟩
        rw [e2]
        refine E_ci 0 rfl ci0 ?_
        exact E_rti rfl ⟨by rw [rowv_0 hr]; rfl, .inl ⟨hr, hh2, s, hs, rfl, f2, g1, g2, g3⟩⟩
      · have q4 : ¬ (0 : Int32).toInt ≤ v.toInt := fun w => b4 (Int32.le_iff_toInt_le.mpr w)
        refine E_ifF rfl (decide_eq_false b4) ?_
        refine E_c rfl ?_
        have q5 := rowv_3 (a := x) (b := y) (c := v) (by omega) (by omega)
        exact E_rti rfl ⟨by rw [q5.1], .inr ⟨q5.2, rfl⟩⟩
    · have q3 : ¬ v.toInt ≤ (nJ 60).toInt := fun w => b3 (Int32.le_iff_toInt_le.mpr w)
      rw [nJ_toInt (by omega)] at q3
      refine E_icF rfl (decide_eq_false b3) ?_
      exact no (by omega)
  · rw [hr]
    refine E_ifT rfl (by decide) ?_
    exact no (by omega)
/-! the reference's row -/
noncomputable def RM9 (s : Nat) : List Rng := [(77, 0, 0), (78, s, s), (79, s, s), (80, 0, 239)]
noncomputable def RQ9 (x y v : Int32) (h h' : pm_H) (r : Option Value) : Prop := r = some (.int (rowv x y v)) ∧ ((rin x y v ∧ HH h' ∧ ∃ s, s < 4 ∧ x = nJ s ∧ fr_g (RM9 s) h h' ∧ gi h' 78 s = y ∧ gi h' 79 s = v) ∨ (¬ rin x y v ∧ h' = pt h 77 0 (nJ 0)))
theorem rw9_loop {h0 : pm_H} {d s w n : Nat} (hs : s < 4) (hn : n ≤ 60) (hr : rin (nJ s) (nJ w) (nJ n)) (j : Nat) : ∀ {h : pm_H} {i : Nat} (lv : List (Nat × Value)), i + j = n → HH h → fr_g (RM9 s) h0 h → gi h 78 s = nJ w → gi h 79 s = nJ n → pm_get lv 0 = some (.ref 77) → pm_get lv 1 = some (.int (nJ s)) → pm_get lv 3 = some (.int (nJ n)) → pm_get lv 4 = some (.int (nJ i)) → Ends (pm_at tX9_row) (pm_Rt pm_P d) (57, lv, [], h, 0, 0) (RQ9 (nJ s) (nJ w) (nJ n) h0) := by
  induction j with
  | zero =>
    intro h i lv hj hh hf g1 g2 L0 L1 L3 L4
    refine E_il rfl L4 ?_
    refine E_il rfl L3 ?_
    refine E_icT rfl (decide_eq_true ((nJ_le (by omega) (by omega)).mpr (by omega))) ?_
    refine E_ci 0 rfl ci0 ?_
    exact E_rti rfl ⟨by rw [rowv_0 hr]; rfl, .inl ⟨hr, hh, s, hs, rfl, hf, g1, g2⟩⟩
  | succ j ih =>
    intro h i lv hj hh hf g1 g2 L0 L1 L3 L4
    refine E_il rfl L4 ?_
    refine E_il rfl L3 ?_
    refine E_icF rfl (decide_eq_false (fun q => absurd ((nJ_le (by omega) (by omega)).mp q) (by omega))) ?_
    refine E_al rfl L0 ?_
    refine E_gr rfl hh (q := 80) rfl ?_
    refine E_ci 60 rfl ci60 ?_
    refine E_il rfl L1 ?_
    refine E_bin rfl (nJ_mul _ _) ?_
    refine E_il rfl L4 ?_
    refine E_bin rfl (nJ_add _ _) ?_
    refine E_c rfl ?_
    refine E_las rfl hh rfl (by omega) (by decide) (fun h1 hh1 f1 _ => ?_)
    refine E_inc rfl L4 (nJ_inc _) (fun lv1 K4 kp => ?_)
    refine E_goto rfl ?_
    exact ih lv1 (by omega) hh1 (fr_trans hf (fr_one (l := 0) (u := 239) rfl (Nat.zero_le _) (by omega) f1)) (by rw [fr_gi f1 (rg_no rfl _)]; exact g1) (by rw [fr_gi f1 (rg_no rfl _)]; exact g2) (kp 0 _ (nbz rfl) rfl L0) (kp 1 _ (nbz rfl) rfl L1) (kp 3 _ (nbz rfl) rfl L3) K4
theorem sp_row9 {h : pm_H} {d : Nat} {x y v : Int32} (hh : HH h) : Sp (d + 3) 338 h [.ref 77, .int x, .int y, .int v] (RQ9 x y v h) := by
  refine Sp_of aiX9_row rfl rfl rfl ?_
  have L0 : pm_get (lv_args 0 [.ref 77, .int x, .int y, .int v]) 0 = some (.ref 77) := rfl
  have L1 : pm_get (lv_args 0 [.ref 77, .int x, .int y, .int v]) 1 = some (.int x) := rfl
  have L2 : pm_get (lv_args 0 [.ref 77, .int x, .int y, .int v]) 2 = some (.int y) := rfl
  have L3 : pm_get (lv_args 0 [.ref 77, .int x, .int y, .int v]) 3 = some (.int v) := rfl
  generalize lv_args 0 [.ref 77, .int x, .int y, .int v] = lv at L0 L1 L2 L3 ⊢
  have z0 : (0 : Int32).toInt = 0 := rfl
  refine E_al rfl L0 ?_
  refine E_ci 0 rfl ci0 ?_
  refine E_pf rfl hh rfl ?_
  have hg : HH (pt h 77 0 (nJ 0)) := HH_ptn hh rfl (by omega) (by omega) (by omega)
  have no : (x.toInt < 0 ∨ 3 < x.toInt ∨ y.toInt < 0 ∨ 3 < y.toInt ∨ 60 < v.toInt) → Ends (pm_at tX9_row) (pm_Rt pm_P (d + 2)) (30, lv, [], pt h 77 0 (nJ 0), 0, 0) (RQ9 x y v h) := by
    intro q
    refine E_c rfl ?_
    exact E_rti rfl ⟨by rw [(rowv_2 q).1], .inr ⟨(rowv_2 q).2, rfl⟩⟩
  refine E_il rfl L1 ?_
  refine E_call rfl sp_isSlot (chkS rfl (by show 0 ≤ 8; decide)) (fun h1 r1 => ?_)
  rintro ⟨e1, f1⟩
  rw [e1, f1]
  by_cases b0 : 0 ≤ x.toInt ∧ x.toInt ≤ 3
  · refine E_ifF rfl (by rw [zb_T b0]; rfl) ?_
    refine E_il rfl L2 ?_
    refine E_i2l rfl ?_
    refine E_c rfl ?_
    refine E_c rfl ?_
    refine E_call rfl (sp_in (a := y.toInt) (b := 0) (c := 3) (i2l_toInt _) rfl rfl) (chkS rfl (by show 0 ≤ 8; decide)) (fun h2 r2 => ?_)
    rintro ⟨e2, f2⟩
    rw [e2, f2]
    by_cases b1 : 0 ≤ y.toInt ∧ y.toInt ≤ 3
    · refine E_ifF rfl (by rw [zb_T b1]; rfl) ?_
      refine E_il rfl L3 ?_
      refine E_ci 60 rfl ci60 ?_
      by_cases b3 : v ≤ nJ 60
      · have q3 := Int32.le_iff_toInt_le.mp b3
        rw [nJ_toInt (by omega)] at q3
        refine E_icT rfl (decide_eq_true b3) ?_
        refine E_il rfl L3 ?_
        by_cases b4 : 0 ≤ v
        · have q4 := Int32.le_iff_toInt_le.mp b4
          refine E_ifT rfl (decide_eq_true b4) ?_
          have hr : rin x y v := ⟨b0, b1, by omega, by omega⟩
          obtain ⟨s, hs, rfl⟩ : ∃ s, s < 4 ∧ x = nJ s := ⟨x.toInt.toNat, by omega, nJ_of b0.1⟩
          obtain ⟨w, hw, rfl⟩ : ∃ s, s ≤ 3 ∧ y = nJ s := ⟨y.toInt.toNat, by omega, nJ_of b1.1⟩
          obtain ⟨n, hn, rfl⟩ : ∃ s, s ≤ 60 ∧ v = nJ s := ⟨v.toInt.toNat, by omega, nJ_of (by omega)⟩
          refine E_al rfl L0 ?_
          refine E_gr rfl hg (q := 78) rfl ?_
          refine E_il rfl L1 ?_
          refine E_il rfl L2 ?_
          refine E_ias rfl hg rfl (by omega) (by decide) ?_
          have h1 : HH (pt (pt h 77 0 (nJ 0)) 78 s (nJ w)) := HH_ptn hg (bd_u rfl (by omega)) (by omega) (by omega) (by omega)
          refine E_al rfl L0 ?_
          refine E_gr rfl h1 (q := 79) rfl ?_
          refine E_il rfl L1 ?_
          refine E_il rfl L3 ?_
          refine E_ias rfl h1 rfl (by omega) (by decide) ?_
          have h2 : HH (pt (pt (pt h 77 0 (nJ 0)) 78 s (nJ w)) 79 s (nJ n)) := HH_ptn h1 (bd_u rfl (by omega)) (by omega) (by omega) (by omega)
          refine E_ci 0 rfl ci0 ?_
          refine E_is rfl (fun lv1 K4 kp => ?_)
          refine rw9_loop hs hn hr n (i := 0) lv1 (by omega) h2 ?_ ?_ ?_ (kp 0 _ (nbz rfl) rfl L0) (kp 1 _ (nbz rfl) rfl L1) (kp 3 _ (nbz rfl) rfl L3) K4
          · refine fr_ptr (l := s) (u := s) (by unfold RM9 rg_sub; simp) (Nat.le_refl _) (Nat.le_refl _) (fr_ptr (l := s) (u := s) (by unfold RM9 rg_sub; simp) (Nat.le_refl _) (Nat.le_refl _) (fr_ptr (l := 0) (u := 0) (by unfold RM9 rg_sub; simp) (Nat.le_refl _) (Nat.le_refl _) (fr_rf _ _)))
          · rw [gi_ne (by first | exact gxx rfl | omega)]
            exact gi_pt hg (bd_u rfl (by omega)) (by rw [nJ_toInt (by omega)]; show (-1 : Int) ≤ _; omega) (by rw [nJ_toInt (by omega)]; show _ ≤ (3 : Int); omega)
          · exact gi_pt h1 (bd_u rfl (by omega)) (by rw [nJ_toInt (by omega)]; show (0 : Int) ≤ _; omega) (by rw [nJ_toInt (by omega)]; show _ ≤ (60 : Int); omega)
        · have q4 : ¬ (0 : Int32).toInt ≤ v.toInt := fun w => b4 (Int32.le_iff_toInt_le.mpr w)
          refine E_ifF rfl (decide_eq_false b4) ?_
          refine E_c rfl ?_
          have q5 := rowv_3 (a := x) (b := y) (c := v) (by omega) (by omega)
          exact E_rti rfl ⟨by rw [q5.1], .inr ⟨q5.2, rfl⟩⟩
      · have q3 : ¬ v.toInt ≤ (nJ 60).toInt := fun w => b3 (Int32.le_iff_toInt_le.mpr w)
        rw [nJ_toInt (by omega)] at q3
        refine E_icF rfl (decide_eq_false b3) ?_
        exact no (by omega)
    · refine E_ifT rfl (by rw [zb_F b1]; rfl) ?_
      exact no (by omega)
  · refine E_ifT rfl (by rw [zb_F b0]; rfl) ?_
    exact no (by omega)
/-! the relation of the slots -/
noncomputable def SL1 (s : Nat) (h : pm_H) : Prop := gi h (54 + 2 * s) 1 = (if gi h 78 s = -1 then 0 else 1) ∧ (¬ gi h 78 s = -1 → gi h (54 + 2 * s) 2 = gi h 78 s) ∧ gi h (54 + 2 * s) 3 = gi h 79 s
noncomputable def SL (h : pm_H) : Prop := ∀ s, s < 4 → SL1 s h
end
section
/-! the slots, II: write and paste of both, pairs of calls over the slots' relation (wants t30, t31, t27) -/
theorem Sp_an {d y : Nat} {h : pm_H} {as : List Value} {Q Q' : pm_H → Option Value → Prop} (a : Sp d y h as Q) (b : Sp d y h as Q') : Sp d y h as (fun h' r => Q h' r ∧ Q' h' r) := by
  obtain ⟨h1, r1, a1, a2⟩ := a
  obtain ⟨h2, r2, b1, b2⟩ := b
  obtain ⟨rfl, rfl⟩ := pm_Rt_det _ _ _ _ _ _ _ _ a1 b1
  exact ⟨h1, r1, a1, a2, b2⟩
section WRT
variable {look : Nat → Option pm_I} {call : pm_Call} {Q : pm_H → Option Value → Prop} {pc n i t : Nat} {lv : List (Nat × Value)} {st : List Value} {w : pm_H × Nat × Nat} {h : pm_H} {z : Nat × Nat}
theorem gp_nw {v u : Value} {j : Nat} (hj : j ≠ i) (hj1 : j + 1 ≠ i) (e : pm_get lv j = some u) : pm_get (pm_put1 i v lv) j = some u := by
  unfold pm_put1
  refine pm_get_ne hj (pm_get_filter e ?_)
  simp only [Bool.and_eq_true, Bool.not_eq_true', Bool.and_eq_false_iff, beq_eq_false_iff_ne]
  exact ⟨hj, .inl hj1⟩
theorem E_asw {a : Nat} (h1 : look pc = some (.inl (s_as i n))) (k : ∀ lv' : List (Nat × Value), pm_get lv' i = some (.ref a) → (∀ (j : Nat) (u : Value), j ≠ i → j + 1 ≠ i → pm_get lv j = some u → pm_get lv' j = some u) → Ends look call (n, lv', st, w) Q) : Ends look call (pc, lv, .ref a :: st, w) Q :=
  E_st h1 rfl (k (pm_put1 i (.ref a) lv) gp_self (fun _ _ a b c => gp_nw a b c))
theorem E_rtl {v : Int64} (h1 : look pc = some (.inr (.inr 3))) (hq : Q h (some (.long v))) : Ends look call (pc, lv, [.long v], h, z) Q := ⟨h, some (.long v), Go_ret h1 ⟨v, rfl, rfl⟩, hq⟩
theorem E_tsA {lo hi : Int} {ts : List Nat} {dd : Nat} {x : Int32} (h1 : look pc = some (.inl (s_tsw lo hi ts dd))) (hz : (decide (x.toInt < lo) || decide (hi < x.toInt)) = false) (ht : ts[(x.toInt - lo).toNat]? = some t) (k : Ends look call (t, lv, st, w) Q) : Ends look call (pc, lv, .int x :: st, w) Q := E_st h1 (by simp only [s_tsw, hz, cond_false, ht]) k
theorem E_tsD {lo hi : Int} {ts : List Nat} {dd : Nat} {x : Int32} (h1 : look pc = some (.inl (s_tsw lo hi ts dd))) (hz : (decide (x.toInt < lo) || decide (hi < x.toInt)) = true) (k : Ends look call (dd, lv, st, w) Q) : Ends look call (pc, lv, .int x :: st, w) Q := E_st h1 (by simp only [s_tsw, hz, cond_true]) k
end WRT
/-- a number cut to its width -/
noncomputable def cutv (v : Int64) (w : Int32) : Int64 := if w = 0 then v.toInt32.toInt8.toInt32.toInt64 else if w = 1 then v.toInt32.toInt16.toInt32.toInt64 else if w = 2 then v.toInt32.toInt64 else v
section CUT
variable {h : pm_H} {d : Nat} {v : Int64} {w : Int32}
theorem sp_cut8 : Sp (d + 1) 97 h [.long v, .int w] (fun h' r => h' = h ∧ r = some (.long (cutv v w))) := by
  refine Sp_of aiX8_cut rfl rfl rfl ?_
  have L0 : pm_get (lv_args 0 [.long v, .int w]) 0 = some (.long v) := rfl
  have L2 : pm_get (lv_args 0 [.long v, .int w]) 2 = some (.int w) := rfl
  generalize lv_args 0 [.long v, .int w] = lv at L0 L2 ⊢
  refine E_il rfl L2 ?_
  by_cases e0 : w = 0
  · subst e0
    refine E_tsA (t := 28) rfl (by decide) (by decide) ?_
    refine E_ll rfl L0 ?_
    refine E_l2i rfl rfl ?_
    refine E_un rfl ?_
    refine E_i2l rfl ?_
    exact E_rtl rfl ⟨rfl, by unfold cutv; rw [if_pos rfl]⟩
  by_cases e1 : w = 1
  · subst e1
    refine E_tsA (t := 33) rfl (by decide) (by decide) ?_
    refine E_ll rfl L0 ?_
    refine E_l2i rfl rfl ?_
    refine E_un rfl ?_
    refine E_i2l rfl ?_
    exact E_rtl rfl ⟨rfl, by unfold cutv; rw [if_neg e0, if_pos rfl]⟩
  by_cases e2 : w = 2
  · subst e2
    refine E_tsA (t := 38) rfl (by decide) (by decide) ?_
    refine E_ll rfl L0 ?_
    refine E_l2i rfl rfl ?_
    refine E_i2l rfl ?_
    exact E_rtl rfl ⟨rfl, by unfold cutv; rw [if_neg e0, if_neg e1, if_pos rfl]⟩
  have n0 : w.toInt ≠ 0 := fun q => e0 (Int32.toInt_inj.mp q)
  have n1 : w.toInt ≠ 1 := fun q => e1 (Int32.toInt_inj.mp q)
  have n2 : w.toInt ≠ 2 := fun q => e2 (Int32.toInt_inj.mp q)
  have hz : (decide (w.toInt < 0) || decide (2 < w.toInt)) = true := by
    rw [Bool.or_eq_true, decide_eq_true_iff, decide_eq_true_iff]
    omega
  refine E_tsD rfl hz ?_
  refine E_ll rfl L0 ?_
  exact E_rtl rfl ⟨rfl, by unfold cutv; rw [if_neg e0, if_neg e1, if_neg e2]⟩
theorem sp_cut9 : Sp (d + 1) 236 h [.long v, .int w] (fun h' r => h' = h ∧ r = some (.long (cutv v w))) := by
  refine Sp_of aiX9_cut rfl rfl rfl ?_
  have L0 : pm_get (lv_args 0 [.long v, .int w]) 0 = some (.long v) := rfl
  have L2 : pm_get (lv_args 0 [.long v, .int w]) 2 = some (.int w) := rfl
  generalize lv_args 0 [.long v, .int w] = lv at L0 L2 ⊢
  refine E_il rfl L2 ?_
  by_cases e0 : w = 0
  · refine E_ifF rfl (decide_eq_false (fun q => q e0)) ?_
    refine E_ll rfl L0 ?_
    refine E_l2i rfl rfl ?_
    refine E_un rfl ?_
    refine E_i2l rfl ?_
    refine E_goto rfl ?_
    exact E_rtl rfl ⟨rfl, by unfold cutv; rw [if_pos e0]⟩
  refine E_ifT rfl (decide_eq_true e0) ?_
  refine E_il rfl L2 ?_
  refine E_c rfl ?_
  by_cases e1 : w = 1
  · refine E_icF rfl (decide_eq_false (fun q => q e1)) ?_
    refine E_ll rfl L0 ?_
    refine E_l2i rfl rfl ?_
    refine E_un rfl ?_
    refine E_i2l rfl ?_
    refine E_goto rfl ?_
    exact E_rtl rfl ⟨rfl, by unfold cutv; rw [if_neg e0, if_pos e1]⟩
  refine E_icT rfl (decide_eq_true e1) ?_
  refine E_il rfl L2 ?_
  refine E_c rfl ?_
  by_cases e2 : w = 2
  · refine E_icF rfl (decide_eq_false (fun q => q e2)) ?_
    refine E_ll rfl L0 ?_
    refine E_l2i rfl rfl ?_
    refine E_i2l rfl ?_
    refine E_goto rfl ?_
    exact E_rtl rfl ⟨rfl, by unfold cutv; rw [if_neg e0, if_neg e1, if_pos e2]⟩
  refine E_icT rfl (decide_eq_true e2) ?_
  refine E_ll rfl L0 ?_
  exact E_rtl rfl ⟨rfl, by unfold cutv; rw [if_neg e0, if_neg e1, if_neg e2]⟩
end CUT
/-- what write answers: f filled, m how many -/
noncomputable def wrv (f m : Nat → Int32) (x i : Int32) : Int32 := if 0 ≤ x.toInt ∧ x.toInt ≤ 3 then (if f x.toInt.toNat = 0 then -6 else if 0 ≤ i.toInt ∧ i.toInt < (m x.toInt.toNat).toInt then 0 else -7) else -2
theorem nJ_nat {s : Nat} (hs : s < 4) : (nJ s).toInt.toNat = s := by rw [nJ_toInt (by omega)]; omega
theorem nJ_sl {s : Nat} (hs : s < 4) : 0 ≤ (nJ s).toInt ∧ (nJ s).toInt ≤ 3 := by rw [nJ_toInt (by omega)]; omega
section WRV
variable {f m f' m' w w' : Nat → Int32} {s : Nat} {x i : Int32}
theorem wrv_6 (hs : s < 4) (e : f s = 0) : wrv f m (nJ s) i = -6 := by
  unfold wrv
  rw [if_pos (nJ_sl hs), nJ_nat hs, if_pos e]
theorem wrv_7 (hs : s < 4) (e : ¬ f s = 0) (b : ¬ (0 ≤ i.toInt ∧ i.toInt < (m s).toInt)) : wrv f m (nJ s) i = -7 := by
  unfold wrv
  rw [if_pos (nJ_sl hs), nJ_nat hs, if_neg e, if_neg b]
theorem wrv_0 (hs : s < 4) (e : ¬ f s = 0) (b : 0 ≤ i.toInt ∧ i.toInt < (m s).toInt) : wrv f m (nJ s) i = 0 := by
  unfold wrv
  rw [if_pos (nJ_sl hs), nJ_nat hs, if_neg e, if_pos b]
theorem wrv_2 (b : ¬ (0 ≤ x.toInt ∧ x.toInt ≤ 3)) : wrv f m x i = -2 := if_neg b
theorem wrv_eq (h1 : ∀ s, s < 4 → f s = f' s) (h2 : ∀ s, s < 4 → m s = m' s) : wrv f m x i = wrv f' m' x i := by
  unfold wrv
  by_cases q : 0 ≤ x.toInt ∧ x.toInt ≤ 3
  · rw [if_pos q, if_pos q, h1 _ (by omega), h2 _ (by omega)]
  · rw [if_neg q, if_neg q]
/-- what paste answers: w the width -/
noncomputable def pav (f w m : Nat → Int32) (x i y j n : Int32) : Int32 := if (0 ≤ x.toInt ∧ x.toInt ≤ 3) ∧ 0 ≤ y.toInt ∧ y.toInt ≤ 3 then (if f x.toInt.toNat = 0 ∨ f y.toInt.toNat = 0 then -6 else if w x.toInt.toNat = w y.toInt.toNat then (if (0 ≤ i.toInt ∧ 0 ≤ n.toInt ∧ i.toInt + n.toInt ≤ (m x.toInt.toNat).toInt) ∧ 0 ≤ j.toInt ∧ 0 ≤ n.toInt ∧ j.toInt + n.toInt ≤ (m y.toInt.toNat).toInt then 0 else -7) else -8) else -2
theorem pav_in {t : Nat} {j n : Int32} (hs : s < 4) (ht : t < 4) : pav f w m (nJ s) i (nJ t) j n = if f s = 0 ∨ f t = 0 then -6 else if w s = w t then (if (0 ≤ i.toInt ∧ 0 ≤ n.toInt ∧ i.toInt + n.toInt ≤ (m s).toInt) ∧ 0 ≤ j.toInt ∧ 0 ≤ n.toInt ∧ j.toInt + n.toInt ≤ (m t).toInt then 0 else -7) else -8 := by
  unfold pav
  rw [if_pos ⟨nJ_sl hs, nJ_sl ht⟩, nJ_nat hs, nJ_nat ht]
theorem pav_2 {y j n : Int32} (b : ¬ ((0 ≤ x.toInt ∧ x.toInt ≤ 3) ∧ 0 ≤ y.toInt ∧ y.toInt ≤ 3)) : pav f w m x i y j n = -2 := if_neg b
theorem pav_eq {y j n : Int32} (h1 : ∀ s, s < 4 → f s = f' s) (h2 : ∀ s, s < 4 → ¬ f' s = 0 → w s = w' s) (h3 : ∀ s, s < 4 → m s = m' s) : pav f w m x i y j n = pav f' w' m' x i y j n := by
  by_cases q : (0 ≤ x.toInt ∧ x.toInt ≤ 3) ∧ 0 ≤ y.toInt ∧ y.toInt ≤ 3
  · obtain ⟨s, hs, rfl⟩ : ∃ s, s < 4 ∧ x = nJ s := ⟨x.toInt.toNat, by omega, nJ_of q.1.1⟩
    obtain ⟨t, ht, rfl⟩ : ∃ s, s < 4 ∧ y = nJ s := ⟨y.toInt.toNat, by omega, nJ_of q.2.1⟩
    rw [pav_in hs ht, pav_in hs ht, h1 s hs, h1 t ht, h3 s hs, h3 t ht]
    by_cases z : f' s = 0 ∨ f' t = 0
    · rw [if_pos z, if_pos z]
    · rw [if_neg z, if_neg z, h2 s hs (fun e => z (.inl e)), h2 t ht (fun e => z (.inr e))]
  · rw [pav_2 q, pav_2 q]
end WRV
noncomputable def cf (h : pm_H) (s : Nat) : Int32 := gi h (54 + 2 * s) 1
noncomputable def cwd (h : pm_H) (s : Nat) : Int32 := gi h (54 + 2 * s) 2
noncomputable def cm (h : pm_H) (s : Nat) : Int32 := gi h (54 + 2 * s) 3
noncomputable def rf (h : pm_H) (s : Nat) : Int32 := if gi h 78 s = -1 then 0 else 1
noncomputable def rfw (h : pm_H) (s : Nat) : Int32 := gi h 78 s
noncomputable def rm (h : pm_H) (s : Nat) : Int32 := gi h 79 s
theorem rf_0 {h : pm_H} {s : Nat} (e : gi h 78 s = -1) : rf h s = 0 := if_pos e
theorem rf_1 {h : pm_H} {s : Nat} (e : ¬ gi h 78 s = -1) : ¬ rf h s = 0 := fun q => by
  unfold rf at q
  rw [if_neg e] at q
  exact absurd q (by decide)
theorem psv_pav {h : pm_H} {x i y j n r : Int32} (q : psv h x i y j n r) : r = pav (cf h) (cwd h) (cm h) x i y j n := by
  rcases q with ⟨q, rfl⟩ | ⟨s, t, hs, ht, rfl, rfl, q⟩
  · rw [pav_2 q]
  · rw [pav_in hs ht]
    rcases q with ⟨q, rfl⟩ | ⟨q, q2⟩
    · exact (if_pos q).symm
    rw [if_neg (show ¬ (cf h s = 0 ∨ cf h t = 0) from q)]
    rcases q2 with ⟨q2, rfl⟩ | ⟨q2, q3⟩
    · exact (if_neg q2).symm
    rw [if_pos (show cwd h s = cwd h t from q2)]
    rcases q3 with ⟨q3, rfl⟩ | ⟨q3, rfl⟩
    · exact (if_neg q3).symm
    · exact (if_pos q3).symm
section WR8
variable {h : pm_H} {d : Nat} {x i : Int32} {v : Int64}
theorem sp_write8 (hh : HH h) : Sp (d + 2) 203 h [.ref 0, .int x, .int i, .long v] (fun _ r => r = some (.int (wrv (cf h) (cm h) x i))) := by
  refine Sp_of aiX8_write rfl rfl rfl ?_
  have L0 : pm_get (lv_args 0 [.ref 0, .int x, .int i, .long v]) 0 = some (.ref 0) := rfl
  have L1 : pm_get (lv_args 0 [.ref 0, .int x, .int i, .long v]) 1 = some (.int x) := rfl
  have L2 : pm_get (lv_args 0 [.ref 0, .int x, .int i, .long v]) 2 = some (.int i) := rfl
  have L3 : pm_get (lv_args 0 [.ref 0, .int x, .int i, .long v]) 3 = some (.long v) := rfl
  generalize lv_args 0 [.ref 0, .int x, .int i, .long v] = lv at L0 L1 L2 L3 ⊢
  have z0 : (0 : Int32).toInt = 0 := rfl
  refine E_il rfl L1 ?_
  refine E_call rfl (sp_isSlot8 (d := d)) (chkS rfl (by show 0 ≤ 8; decide)) (fun h1 r1 => ?_)
  rintro ⟨e1, rv⟩
  rw [e1]
  rcases rv with ⟨a0, a3, hr⟩ | ⟨an, hr⟩
  · rw [hr]
    refine E_ifT rfl (by decide) ?_
    obtain ⟨s, hs, rfl⟩ : ∃ s, s < 4 ∧ x = nJ s := ⟨x.toInt.toNat, by omega, nJ_of a0⟩
    obtain ⟨S1, S2, S3, S4, S5, S6⟩ := isS_at s hs
    refine E_al rfl L0 ?_
    refine E_ogr rfl hh rfl (q := 53) rfl ?_
    refine E_il rfl L1 ?_
    refine E_aal rfl hh rfl (slot_at s hs) (by decide) ?_
    refine E_asw rfl (fun lv1 M5 kp => ?_)
    have M2 := kp 2 _ (nbz rfl) (nbz rfl) L2
    have M3 := kp 3 _ (nbz rfl) (nbz rfl) L3
    refine E_al rfl M5 ?_
    refine E_ogf rfl hh S1 S4 rfl ?_
    by_cases b1 : gi h (54 + 2 * s) 1 = 0
    · refine E_ifF rfl (decide_eq_false (fun q => q b1)) ?_
      refine E_c rfl ?_
      exact E_rti rfl (by rw [wrv_6 hs b1])
    refine E_ifT rfl (decide_eq_true b1) ?_
    have g := (ld_gi hh S6).2
    dsimp only at g
    have no : ∀ {lv : List (Nat × Value)}, ¬ (0 ≤ i.toInt ∧ i.toInt < (gi h (54 + 2 * s) 3).toInt) → Ends (pm_at tX8_write) (pm_Rt pm_P (d + 1)) (42, lv, [], h, 0, 0) (fun _ r => r = some (.int (wrv (cf h) (cm h) (nJ s) i))) := by
      intro lv hn
      refine E_c rfl ?_
      exact E_rti rfl (by rw [wrv_7 hs b1 hn])
    refine E_il rfl M2 ?_
    by_cases b2 : i < 0
    · have q := Int32.lt_iff_toInt_lt.mp b2
      refine E_ifT rfl (decide_eq_true b2) ?_
      exact no (by omega)
    have q2 : ¬ i.toInt < (0 : Int32).toInt := fun z => b2 (Int32.lt_iff_toInt_lt.mpr z)
    refine E_ifF rfl (decide_eq_false b2) ?_
    refine E_il rfl M2 ?_
    refine E_al rfl M5 ?_
    refine E_ogf rfl hh S1 S6 rfl ?_
    by_cases b3 : i < gi h (54 + 2 * s) 3
    · have q3 := Int32.lt_iff_toInt_lt.mp b3
      refine E_icT rfl (decide_eq_true b3) ?_
      obtain ⟨k, hk, rfl⟩ : ∃ k, k < 60 ∧ i = nJ k := ⟨i.toInt.toNat, by omega, nJ_of (by omega)⟩
      refine E_al rfl M5 ?_
      refine E_ogr rfl hh S1 S2 ?_
      refine E_il rfl M2 ?_
      refine E_ll rfl M3 ?_
      refine E_al rfl M5 ?_
      refine E_ogf rfl hh S1 S5 rfl ?_
      refine E_call rfl (sp_cut8 (d := d)) (chkS rfl (by show 2 ≤ 8; decide)) (fun h3 r3 => ?_)
      rintro ⟨e3, f3⟩
      rw [e3, f3]
      refine E_las rfl hh S3 hk (by decide) (fun h4 _ _ _ => ?_)
      refine E_c rfl ?_
      exact E_rti rfl (by rw [wrv_0 hs b1 ⟨by omega, q3⟩])
    · have q3 : ¬ i.toInt < (gi h (54 + 2 * s) 3).toInt := fun z => b3 (Int32.lt_iff_toInt_lt.mpr z)
      refine E_icF rfl (decide_eq_false b3) ?_
      exact no (fun z => q3 z.2)
  · rw [hr]
    refine E_ifF rfl (by decide) ?_
    refine E_c rfl ?_
    exact E_rti rfl (by rw [wrv_2 an])
theorem sp_write9 (hh : HH h) : Sp (d + 3) 380 h [.ref 77, .int x, .int i, .long v] (fun _ r => r = some (.int (wrv (rf h) (rm h) x i))) := by
  refine Sp_of aiX9_write rfl rfl rfl ?_
  have L0 : pm_get (lv_args 0 [.ref 77, .int x, .int i, .long v]) 0 = some (.ref 77) := rfl
  have L1 : pm_get (lv_args 0 [.ref 77, .int x, .int i, .long v]) 1 = some (.int x) := rfl
  have L2 : pm_get (lv_args 0 [.ref 77, .int x, .int i, .long v]) 2 = some (.int i) := rfl
  have L3 : pm_get (lv_args 0 [.ref 77, .int x, .int i, .long v]) 3 = some (.long v) := rfl
  generalize lv_args 0 [.ref 77, .int x, .int i, .long v] = lv at L0 L1 L2 L3 ⊢
  have o1 : (1 : Int32).toInt = 1 := rfl
  refine E_al rfl L0 ?_
  refine E_ci 0 rfl ci0 ?_
  refine E_pf rfl hh rfl ?_
  have hg : HH (pt h 77 0 (nJ 0)) := HH_ptn hh rfl (by omega) (by omega) (by omega)
  refine E_il rfl L1 ?_
  refine E_call rfl sp_isSlot (chkS rfl (by show 0 ≤ 8; decide)) (fun h1 r1 => ?_)
  rintro ⟨e1, f1⟩
  rw [e1, f1]
  by_cases b0 : 0 ≤ x.toInt ∧ x.toInt ≤ 3
  · refine E_ifT rfl (by rw [zb_T b0]; rfl) ?_
    obtain ⟨s, hs, rfl⟩ : ∃ s, s < 4 ∧ x = nJ s := ⟨x.toInt.toNat, by omega, nJ_of b0.1⟩
    refine E_al rfl L0 ?_
    refine E_gr rfl hg (q := 78) rfl ?_
    refine E_il rfl L1 ?_
    refine E_ial (v := gi h 78 s) rfl hg rfl (by omega) (by decide) (gi_ne (by first | exact gxx rfl | omega)) ?_
    refine E_c rfl ?_
    by_cases b1 : gi h 78 s = -1
    · refine E_icF rfl (decide_eq_false (fun q => q b1)) ?_
      refine E_c rfl ?_
      exact E_rti rfl (by rw [wrv_6 hs (rf_0 b1)])
    refine E_icT rfl (decide_eq_true b1) ?_
    refine E_il rfl L2 ?_
    refine E_i2l rfl ?_
    refine E_c rfl ?_
    refine E_al rfl L0 ?_
    refine E_gr rfl hg (q := 79) rfl ?_
    refine E_il rfl L1 ?_
    refine E_ial (v := gi h 79 s) rfl hg rfl (by omega) (by decide) (gi_ne (by first | exact gxx rfl | omega)) ?_
    refine E_c rfl ?_
    refine E_bin rfl rfl ?_
    refine E_i2l rfl ?_
    have g := (ld_gi hh (a := 79) (k := s) (bd_u rfl (by omega))).2
    dsimp only at g
    have es : (gi h 79 s - 1).toInt = (gi h 79 s).toInt - 1 := by
      rw [Int32.toInt_sub, o1]
      exact Int.bmod_eq_of_le (by omega) (by omega)
    refine E_call rfl (sp_in (a := i.toInt) (b := 0) (c := (gi h 79 s).toInt - 1) (i2l_toInt _) rfl (by rw [i2l_toInt]; exact es)) (chkS rfl (by show 0 ≤ 8; decide)) (fun h2 r2 => ?_)
    rintro ⟨e2, f2⟩
    rw [e2, f2]
    by_cases b2 : 0 ≤ i.toInt ∧ i.toInt ≤ (gi h 79 s).toInt - 1
    · refine E_ifT rfl (by rw [zb_T b2]; rfl) ?_
      obtain ⟨k, hk, rfl⟩ : ∃ k, k < 60 ∧ i = nJ k := ⟨i.toInt.toNat, by omega, nJ_of b2.1⟩
      refine E_al rfl L0 ?_
      refine E_gr rfl hg (q := 80) rfl ?_
      refine E_ci 60 rfl ci60 ?_
      refine E_il rfl L1 ?_
      refine E_bin rfl (nJ_mul _ _) ?_
      refine E_il rfl L2 ?_
      refine E_bin rfl (nJ_add _ _) ?_
      refine E_ll rfl L3 ?_
      refine E_al rfl L0 ?_
      refine E_gr rfl hg (q := 78) rfl ?_
      refine E_il rfl L1 ?_
      refine E_ial rfl hg rfl (by omega) (by decide) rfl ?_
      refine E_call rfl (sp_cut9 (d := d + 1)) (chkS rfl (by show 2 ≤ 8; decide)) (fun h3 r3 => ?_)
      rintro ⟨e3, f3⟩
      rw [e3, f3]
      refine E_las rfl hg rfl (by omega) (by decide) (fun h4 _ _ _ => ?_)
      refine E_c rfl ?_
      exact E_rti rfl (by rw [wrv_0 hs (rf_1 b1) ⟨b2.1, by have := b2.2; show _ < (gi h 79 s).toInt; omega⟩])
    · refine E_ifF rfl (by rw [zb_F b2]; rfl) ?_
      refine E_c rfl ?_
      exact E_rti rfl (by rw [wrv_7 hs (rf_1 b1) (fun z => b2 ⟨z.1, by have : _ < (gi h 79 s).toInt := z.2; omega⟩)])
  · refine E_ifF rfl (by rw [zb_F b0]; rfl) ?_
    refine E_c rfl ?_
    exact E_rti rfl (by rw [wrv_2 b0])
end WR8
/-! the reference's paste -/
theorem i2l_add (x y : Int32) : (x.toInt64 + y.toInt64).toInt = x.toInt + y.toInt := by
  have := ai_lo x
  have := ai_hi x
  have := ai_lo y
  have := ai_hi y
  rw [Int64.toInt_add, i2l_toInt, i2l_toInt]
  exact Int.bmod_eq_of_le (by omega) (by omega)
section PA9
variable {d s t a b n : Nat}
theorem p9_b (ht : t < 4) (hb : b + n ≤ 60) (j : Nat) : ∀ {h : pm_H} {c : Nat} (lv : List (Nat × Value)), c + j = n → HH h → pm_get lv 0 = some (.ref 77) → pm_get lv 3 = some (.int (nJ t)) → pm_get lv 4 = some (.int (nJ b)) → pm_get lv 5 = some (.int (nJ n)) → pm_get lv 6 = some (.int (nJ c)) → Ends (pm_at tX9_paste) (pm_Rt pm_P d) (155, lv, [], h, 0, 0) (fun _ r => r = some (.int 0)) := by
  induction j with
  | zero =>
    intro h c lv hj hh L0 L3 L4 L5 L6
    refine E_il rfl L6 ?_
    refine E_il rfl L5 ?_
    refine E_icT rfl (decide_eq_true ((nJ_le (by omega) (by omega)).mpr (by omega))) ?_
    refine E_c rfl ?_
    exact E_rti rfl rfl
  | succ j ih =>
    intro h c lv hj hh L0 L3 L4 L5 L6
    refine E_il rfl L6 ?_
    refine E_il rfl L5 ?_
    refine E_icF rfl (decide_eq_false (fun q => absurd ((nJ_le (by omega) (by omega)).mp q) (by omega))) ?_
    refine E_al rfl L0 ?_
    refine E_gr rfl hh (q := 80) rfl ?_
    refine E_ci 60 rfl ci60 ?_
    refine E_il rfl L3 ?_
    refine E_bin rfl (nJ_mul _ _) ?_
    refine E_il rfl L4 ?_
    refine E_bin rfl (nJ_add _ _) ?_
    refine E_il rfl L6 ?_
    refine E_bin rfl (nJ_add _ _) ?_
    refine E_al rfl L0 ?_
    refine E_gr rfl hh (q := 81) rfl ?_
    refine E_il rfl L6 ?_
    refine E_lal rfl hh rfl (by omega) (by decide) ?_
    refine E_las rfl hh rfl (by omega) (by decide) (fun h1 hh1 _ _ => ?_)
    refine E_inc rfl L6 (nJ_inc _) (fun lv1 K6 kp => ?_)
    refine E_goto rfl ?_
    exact ih lv1 (by omega) hh1 (kp 0 _ (nbz rfl) rfl L0) (kp 3 _ (nbz rfl) rfl L3) (kp 4 _ (nbz rfl) rfl L4) (kp 5 _ (nbz rfl) rfl L5) K6
theorem p9_a (hs : s < 4) (ht : t < 4) (ha : a + n ≤ 60) (hb : b + n ≤ 60) (j : Nat) : ∀ {h : pm_H} {c : Nat} (lv : List (Nat × Value)), c + j = n → HH h → pm_get lv 0 = some (.ref 77) → pm_get lv 1 = some (.int (nJ s)) → pm_get lv 2 = some (.int (nJ a)) → pm_get lv 3 = some (.int (nJ t)) → pm_get lv 4 = some (.int (nJ b)) → pm_get lv 5 = some (.int (nJ n)) → pm_get lv 6 = some (.int (nJ c)) → Ends (pm_at tX9_paste) (pm_Rt pm_P d) (118, lv, [], h, 0, 0) (fun _ r => r = some (.int 0)) := by
  induction j with
  | zero =>
    intro h c lv hj hh L0 L1 L2 L3 L4 L5 L6
    refine E_il rfl L6 ?_
    refine E_il rfl L5 ?_
    refine E_icT rfl (decide_eq_true ((nJ_le (by omega) (by omega)).mpr (by omega))) ?_
    refine E_ci 0 rfl ci0 ?_
    refine E_is rfl (fun lv1 K6 kp => ?_)
    exact p9_b ht hb n (c := 0) lv1 (by omega) hh (kp 0 _ (nbz rfl) rfl L0) (kp 3 _ (nbz rfl) rfl L3) (kp 4 _ (nbz rfl) rfl L4) (kp 5 _ (nbz rfl) rfl L5) K6
  | succ j ih =>
    intro h c lv hj hh L0 L1 L2 L3 L4 L5 L6
    refine E_il rfl L6 ?_
    refine E_il rfl L5 ?_
    refine E_icF rfl (decide_eq_false (fun q => absurd ((nJ_le (by omega) (by omega)).mp q) (by omega))) ?_
    refine E_al rfl L0 ?_
    refine E_gr rfl hh (q := 81) rfl ?_
    refine E_il rfl L6 ?_
    refine E_al rfl L0 ?_
    refine E_gr rfl hh (q := 80) rfl ?_
    refine E_ci 60 rfl ci60 ?_
    refine E_il rfl L1 ?_
    refine E_bin rfl (nJ_mul _ _) ?_
    refine E_il rfl L2 ?_
    refine E_bin rfl (nJ_add _ _) ?_
    refine E_il rfl L6 ?_
    refine E_bin rfl (nJ_add _ _) ?_
    refine E_lal rfl hh rfl (by omega) (by decide) ?_
    refine E_las rfl hh rfl (by omega) (by decide) (fun h1 hh1 _ _ => ?_)
    refine E_inc rfl L6 (nJ_inc _) (fun lv1 K6 kp => ?_)
    refine E_goto rfl ?_
    exact ih lv1 (by omega) hh1 (kp 0 _ (nbz rfl) rfl L0) (kp 1 _ (nbz rfl) rfl L1) (kp 2 _ (nbz rfl) rfl L2) (kp 3 _ (nbz rfl) rfl L3) (kp 4 _ (nbz rfl) rfl L4) (kp 5 _ (nbz rfl) rfl L5) K6
theorem sp_paste9 {h : pm_H} {x i y j n : Int32} (hh : HH h) : Sp (d + 3) 323 h [.ref 77, .int x, .int i, .int y, .int j, .int n] (fun _ r => r = some (.int (pav (rf h) (rfw h) (rm h) x i y j n))) := by
  refine Sp_of aiX9_paste rfl rfl rfl ?_
  have L0 : pm_get (lv_args 0 [.ref 77, .int x, .int i, .int y, .int j, .int n]) 0 = some (.ref 77) := rfl
  have L1 : pm_get (lv_args 0 [.ref 77, .int x, .int i, .int y, .int j, .int n]) 1 = some (.int x) := rfl
  have L2 : pm_get (lv_args 0 [.ref 77, .int x, .int i, .int y, .int j, .int n]) 2 = some (.int i) := rfl
  have L3 : pm_get (lv_args 0 [.ref 77, .int x, .int i, .int y, .int j, .int n]) 3 = some (.int y) := rfl
  have L4 : pm_get (lv_args 0 [.ref 77, .int x, .int i, .int y, .int j, .int n]) 4 = some (.int j) := rfl
  have L5 : pm_get (lv_args 0 [.ref 77, .int x, .int i, .int y, .int j, .int n]) 5 = some (.int n) := rfl
  generalize lv_args 0 [.ref 77, .int x, .int i, .int y, .int j, .int n] = lv at L0 L1 L2 L3 L4 L5 ⊢
  have z0 : (0 : Int32).toInt = 0 := rfl
  refine E_al rfl L0 ?_
  refine E_ci 0 rfl ci0 ?_
  refine E_pf rfl hh rfl ?_
  have hg : HH (pt h 77 0 (nJ 0)) := HH_ptn hh rfl (by omega) (by omega) (by omega)
  have no : ¬ ((0 ≤ x.toInt ∧ x.toInt ≤ 3) ∧ 0 ≤ y.toInt ∧ y.toInt ≤ 3) → Ends (pm_at tX9_paste) (pm_Rt pm_P (d + 2)) (19, lv, [], pt h 77 0 (nJ 0), 0, 0) (fun _ r => r = some (.int (pav (rf h) (rfw h) (rm h) x i y j n))) := by
    intro hn
    refine E_c rfl ?_
    exact E_rti rfl (by rw [pav_2 hn])
  refine E_il rfl L1 ?_
  refine E_call rfl sp_isSlot (chkS rfl (by show 0 ≤ 8; decide)) (fun h1 r1 => ?_)
  rintro ⟨e1, f1⟩
  rw [e1, f1]
  by_cases b0 : 0 ≤ x.toInt ∧ x.toInt ≤ 3
  · refine E_ifF rfl (by rw [zb_T b0]; rfl) ?_
    refine E_il rfl L3 ?_
    refine E_call rfl sp_isSlot (chkS rfl (by show 0 ≤ 8; decide)) (fun h2 r2 => ?_)
    rintro ⟨e2, f2⟩
    rw [e2, f2]
    by_cases c0 : 0 ≤ y.toInt ∧ y.toInt ≤ 3
    · refine E_ifT rfl (by rw [zb_T c0]; rfl) ?_
      obtain ⟨s, hs, rfl⟩ : ∃ s, s < 4 ∧ x = nJ s := ⟨x.toInt.toNat, by omega, nJ_of b0.1⟩
      obtain ⟨t, ht, rfl⟩ : ∃ s, s < 4 ∧ y = nJ s := ⟨y.toInt.toNat, by omega, nJ_of c0.1⟩
      rw [pav_in hs ht]
      refine E_al rfl L0 ?_
      refine E_gr rfl hg (q := 78) rfl ?_
      refine E_il rfl L1 ?_
      refine E_ial (v := gi h 78 s) rfl hg rfl (by omega) (by decide) (gi_ne (by first | exact gxx rfl | omega)) ?_
      refine E_c rfl ?_
      by_cases b1 : gi h 78 s = -1
      · refine E_icT rfl (decide_eq_true b1) ?_
        refine E_c rfl ?_
        exact E_rti rfl (by rw [if_pos (.inl (rf_0 b1))])
      refine E_icF rfl (decide_eq_false b1) ?_
      refine E_al rfl L0 ?_
      refine E_gr rfl hg (q := 78) rfl ?_
      refine E_il rfl L3 ?_
      refine E_ial (v := gi h 78 t) rfl hg rfl (by omega) (by decide) (gi_ne (by first | exact gxx rfl | omega)) ?_
      refine E_c rfl ?_
      by_cases b2 : gi h 78 t = -1
      · refine E_icF rfl (decide_eq_false (fun q => q b2)) ?_
        refine E_c rfl ?_
        exact E_rti rfl (by rw [if_pos (.inr (rf_0 b2))])
      refine E_icT rfl (decide_eq_true b2) ?_
      rw [if_neg (fun q : rf h s = 0 ∨ rf h t = 0 => q.elim (rf_1 b1) (rf_1 b2))]
      refine E_al rfl L0 ?_
      refine E_gr rfl hg (q := 78) rfl ?_
      refine E_il rfl L1 ?_
      refine E_ial (v := gi h 78 s) rfl hg rfl (by omega) (by decide) (gi_ne (by first | exact gxx rfl | omega)) ?_
      refine E_al rfl L0 ?_
      refine E_gr rfl hg (q := 78) rfl ?_
      refine E_il rfl L3 ?_
      refine E_ial (v := gi h 78 t) rfl hg rfl (by omega) (by decide) (gi_ne (by first | exact gxx rfl | omega)) ?_
      by_cases b3 : gi h 78 s = gi h 78 t
      · refine E_icT rfl (decide_eq_true b3) ?_
        rw [if_pos (show rfw h s = rfw h t from b3)]
        have g1 := (ld_gi hh (a := 79) (k := s) (bd_u rfl (by omega))).2
        have g2 := (ld_gi hh (a := 79) (k := t) (bd_u rfl (by omega))).2
        dsimp only at g1 g2
        have no7 : ¬ ((0 ≤ i.toInt ∧ 0 ≤ n.toInt ∧ i.toInt + n.toInt ≤ (rm h s).toInt) ∧ 0 ≤ j.toInt ∧ 0 ≤ n.toInt ∧ j.toInt + n.toInt ≤ (rm h t).toInt) → Ends (pm_at tX9_paste) (pm_Rt pm_P (d + 2)) (112, lv, [], pt h 77 0 (nJ 0), 0, 0) (fun _ r => r = some (.int (if (0 ≤ i.toInt ∧ 0 ≤ n.toInt ∧ i.toInt + n.toInt ≤ (rm h s).toInt) ∧ 0 ≤ j.toInt ∧ 0 ≤ n.toInt ∧ j.toInt + n.toInt ≤ (rm h t).toInt then 0 else -7))) := by
          intro hn
          refine E_c rfl ?_
          exact E_rti rfl (by rw [if_neg hn])
        have r1 : rm h s = gi h 79 s := rfl
        have r2 : rm h t = gi h 79 t := rfl
        rw [r1, r2] at no7 ⊢
        refine E_il rfl L2 ?_
        by_cases k1 : i < 0
        · have q := Int32.lt_iff_toInt_lt.mp k1
          refine E_ifT rfl (decide_eq_true k1) ?_
          exact no7 (by omega)
        have q1 : ¬ i.toInt < (0 : Int32).toInt := fun z => k1 (Int32.lt_iff_toInt_lt.mpr z)
        refine E_ifF rfl (decide_eq_false k1) ?_
        refine E_il rfl L4 ?_
        by_cases k2 : j < 0
        · have q := Int32.lt_iff_toInt_lt.mp k2
          refine E_ifT rfl (decide_eq_true k2) ?_
          exact no7 (by omega)
        have q2 : ¬ j.toInt < (0 : Int32).toInt := fun z => k2 (Int32.lt_iff_toInt_lt.mpr z)
        refine E_ifF rfl (decide_eq_false k2) ?_
        refine E_il rfl L5 ?_
        by_cases k3 : n < 0
        · have q := Int32.lt_iff_toInt_lt.mp k3
          refine E_ifT rfl (decide_eq_true k3) ?_
          exact no7 (by omega)
        have q3 : ¬ n.toInt < (0 : Int32).toInt := fun z => k3 (Int32.lt_iff_toInt_lt.mpr z)
        refine E_ifF rfl (decide_eq_false k3) ?_
        refine E_il rfl L2 ?_
        refine E_i2l rfl ?_
        refine E_il rfl L5 ?_
        refine E_i2l rfl ?_
        refine E_lbin rfl ?_
        refine E_al rfl L0 ?_
        refine E_gr rfl hg (q := 79) rfl ?_
        refine E_il rfl L1 ?_
        refine E_ial (v := gi h 79 s) rfl hg rfl (by omega) (by decide) (gi_ne (by first | exact gxx rfl | omega)) ?_
        refine E_i2l rfl ?_
        refine E_lcmp rfl ?_
        by_cases k4 : (gi h 79 s).toInt < i.toInt + n.toInt
        · refine E_ifT rfl (decide_eq_true ((lg_cmp_gt _ _).mpr (by rw [Int64.lt_iff_toInt_lt, i2l_add, i2l_toInt]; omega))) ?_
          exact no7 (by omega)
        refine E_ifF rfl (decide_eq_false (fun q => absurd ((lg_cmp_gt _ _).mp q) (by rw [Int64.lt_iff_toInt_lt, i2l_add, i2l_toInt]; omega))) ?_
        refine E_il rfl L4 ?_
        refine E_i2l rfl ?_
        refine E_il rfl L5 ?_
        refine E_i2l rfl ?_
        refine E_lbin rfl ?_
        refine E_al rfl L0 ?_
        refine E_gr rfl hg (q := 79) rfl ?_
        refine E_il rfl L3 ?_
        refine E_ial (v := gi h 79 t) rfl hg rfl (by omega) (by decide) (gi_ne (by first | exact gxx rfl | omega)) ?_
        refine E_i2l rfl ?_
        refine E_lcmp rfl ?_
        by_cases k5 : j.toInt + n.toInt ≤ (gi h 79 t).toInt
        · refine E_ifT rfl (decide_eq_true ((lg_cmp_le _ _).mpr (by rw [Int64.le_iff_toInt_le, i2l_add, i2l_toInt]; omega))) ?_
          rw [if_pos (by omega)]
          obtain ⟨a, ha, rfl⟩ : ∃ k, k ≤ 60 ∧ i = nJ k := ⟨i.toInt.toNat, by omega, nJ_of (by omega)⟩
          obtain ⟨b, hb, rfl⟩ : ∃ k, k ≤ 60 ∧ j = nJ k := ⟨j.toInt.toNat, by omega, nJ_of (by omega)⟩
          obtain ⟨m, hm, rfl⟩ : ∃ k, k ≤ 60 ∧ n = nJ k := ⟨n.toInt.toNat, by omega, nJ_of (by omega)⟩
          have ea := nJ_toInt (n := a) (by omega)
          have eb := nJ_toInt (n := b) (by omega)
          have em := nJ_toInt (n := m) (by omega)
          refine E_ci 0 rfl ci0 ?_
          refine E_is rfl (fun lv1 K6 kp => ?_)
          exact p9_a hs ht (by omega) (by omega) m (c := 0) lv1 (by omega) hg (kp 0 _ (nbz rfl) rfl L0) (kp 1 _ (nbz rfl) rfl L1) (kp 2 _ (nbz rfl) rfl L2) (kp 3 _ (nbz rfl) rfl L3) (kp 4 _ (nbz rfl) rfl L4) (kp 5 _ (nbz rfl) rfl L5) K6
        · refine E_ifF rfl (decide_eq_false (fun q => absurd ((lg_cmp_le _ _).mp q) (by rw [Int64.le_iff_toInt_le, i2l_add, i2l_toInt]; omega))) ?_
          exact no7 (by omega)
      · refine E_icF rfl (decide_eq_false b3) ?_
        rw [if_neg (show ¬ rfw h s = rfw h t from b3)]
        refine E_c rfl ?_
        exact E_rti rfl rfl
    · refine E_ifF rfl (by rw [zb_F c0]; rfl) ?_
      exact no (fun q => c0 q.2)
  · refine E_ifT rfl (by rw [zb_F b0]; rfl) ?_
    exact no (fun q => b0 q.1)
end PA9
end
section
/-! pairs of calls over the slots' relation (wants t32) -/
noncomputable def RES (h : pm_H) : Prop := REL h ∧ SL h
noncomputable def IVS (h : pm_H) : Prop := IVh h ∧ RES h
noncomputable def slB (M : List Rng) : Bool := (M.all (fun r => !(Nat.beq r.1 54)) && M.all (fun r => !(Nat.beq r.1 56))) && ((M.all (fun r => !(Nat.beq r.1 58)) && M.all (fun r => !(Nat.beq r.1 60))) && (M.all (fun r => !(Nat.beq r.1 78)) && M.all (fun r => !(Nat.beq r.1 79))))
noncomputable def resB (M : List Rng) : Bool := relB M && slB M
theorem SL1_eq {h h' : pm_H} {s : Nat} (e1 : gi h' (54 + 2 * s) 1 = gi h (54 + 2 * s) 1) (e2 : gi h' (54 + 2 * s) 2 = gi h (54 + 2 * s) 2) (e3 : gi h' (54 + 2 * s) 3 = gi h (54 + 2 * s) 3) (e4 : gi h' 78 s = gi h 78 s) (e5 : gi h' 79 s = gi h 79 s) (S : SL1 s h) : SL1 s h' := by
  unfold SL1
  rw [e1, e2, e3, e4, e5]
  exact S
theorem slB_at {M : List Rng} (hb : slB M = true) : ∀ s, s < 4 → M.all (fun r => !(Nat.beq r.1 (54 + 2 * s))) = true := by
  unfold slB at hb
  simp only [Bool.and_eq_true] at hb
  intro s hs
  match s, hs with
  | 0, _ => exact hb.1.1
  | 1, _ => exact hb.1.2
  | 2, _ => exact hb.2.1.1
  | 3, _ => exact hb.2.1.2
theorem slB_r {M : List Rng} (hb : slB M = true) : M.all (fun r => !(Nat.beq r.1 78)) = true ∧ M.all (fun r => !(Nat.beq r.1 79)) = true := by
  unfold slB at hb
  simp only [Bool.and_eq_true] at hb
  exact hb.2.2
theorem SL_fr {M : List Rng} {h h' : pm_H} (hf : fr_g M h h') (hb : slB M = true) (S : SL h) : SL h' := by
  intro s hs
  have c1 := slB_at hb s hs
  have c2 := slB_r hb
  exact SL1_eq (fr_gi hf (rg_no c1 _)) (fr_gi hf (rg_no c1 _)) (fr_gi hf (rg_no c1 _)) (fr_gi hf (rg_no c2.1 _)) (fr_gi hf (rg_no c2.2 _)) (S s hs)
theorem RES_fr {M : List Rng} {h h' : pm_H} (hf : fr_g M h h') (hb : resB M = true) (R : RES h) : RES h' := by
  unfold resB at hb
  rw [Bool.and_eq_true] at hb
  exact ⟨REL_fr hf hb.1 R.1, SL_fr hf hb.2 R.2⟩
theorem IVS_hp0 : IVS hp0 := by
  refine ⟨IVR_hp0.1, IVR_hp0.2, fun s hs => ?_⟩
  match s, hs with
  | 0, _ => exact ⟨by decide +kernel, fun q => absurd (by decide +kernel) q, by decide +kernel⟩
  | 1, _ => exact ⟨by decide +kernel, fun q => absurd (by decide +kernel) q, by decide +kernel⟩
  | 2, _ => exact ⟨by decide +kernel, fun q => absurd (by decide +kernel) q, by decide +kernel⟩
  | 3, _ => exact ⟨by decide +kernel, fun q => absurd (by decide +kernel) q, by decide +kernel⟩
/-- a call that keeps the slots' places, joined to a pair's first half -/
theorem hf_SL {d y : Nat} {h : pm_H} {as : List Value} {M : List Rng} {P : pm_H → Int32 → Prop} {T : pm_H → Option Value → Prop} (hd : d ≤ 100) (hM : slB M = true) (S : SL h) (a : Sp 100 y h as (fun h' r => IVh h' ∧ ∃ x : Int32, r = some (.int x) ∧ P h' x)) (b : Sp d y h as (fun h' r => T h' r ∧ fr_g M h h')) : Sp 100 y h as (fun h' r => IVh h' ∧ ∃ x : Int32, r = some (.int x) ∧ (P h' x ∧ SL h')) :=
  Sp_mono (fun _ _ q => by
    obtain ⟨⟨q1, x, q2, q3⟩, -, q4⟩ := q
    exact ⟨q1, x, q2, q3, SL_fr q4 hM S⟩) (Sp_an a (Sp_le hd b))
/-- the same of a second half -/
theorem hs_SL {d y : Nat} {h : pm_H} {as : List Value} {M : List Rng} {P : Option Value → Prop} {T : pm_H → Option Value → Prop} (hd : d ≤ 100) (hM : slB M = true) (S : SL h) (a : Sp 100 y h as (fun h' r => IVR h' ∧ P r)) (b : Sp d y h as (fun h' r => T h' r ∧ fr_g M h h')) : Sp 100 y h as (fun h' r => IVS h' ∧ P r) :=
  Sp_mono (fun _ _ q => by
    obtain ⟨⟨q1, q2⟩, -, q4⟩ := q
    exact ⟨⟨q1.1, q1.2, SL_fr q4 hM S⟩, q2⟩) (Sp_an a (Sp_le hd b))
theorem tf_all {d : Nat} {S : Sum1} (q : sum_g w0 (pm_Rt pm_P d) S) (hb : topB S = true) {h : pm_H} {as : List Value} (I : IVh h) (ha : f2 cv_g S.2.1 as) : Sp d S.1 h as (fun h' _ => IVh h' ∧ fr_g S.2.2.2.2.1 h h') :=
  Sp_mono (fun _ _ q => ⟨q.1, q.2.1⟩) (top_all q hb I ha)
section OLD
variable {h : pm_H} {x v a b c d e : Int32}
theorem d8_feed (I : IVS h) : Sp 100 106 h [.ref 0, .int a, .int b, .int c, .int d, .int e] (fun h' r => IVh h' ∧ ∃ x : Int32, r = some (.int x) ∧ (half_feed h' x a b c d e ∧ SL h')) :=
  hf_SL (by omega) rfl I.2.2 (c8_feed ⟨I.1, I.2.1⟩) (tf_all (as := [.ref 0, .int a, .int b, .int c, .int d, .int e]) q1 (by decide +kernel) I.1 ⟨rfl, aI _, aI _, aI _, aI _, aI _, trivial⟩)
theorem d9_feed (I : IVh h) (J : half_feed h x a b c d e ∧ SL h) : Sp 100 247 h [.ref 77, .int a, .int b, .int c, .int d, .int e] (fun h' r => IVS h' ∧ r = some (.int x)) :=
  hs_SL (by omega) rfl J.2 (c9_feed I J.1) (tf_all (as := [.ref 77, .int a, .int b, .int c, .int d, .int e]) q7 (by decide +kernel) I ⟨rfl, aI _, aI _, aI _, aI _, aI _, trivial⟩)
theorem d8_end (I : IVS h) : Sp 100 101 h [.ref 0, .int v] (fun h' r => IVh h' ∧ ∃ x : Int32, r = some (.int x) ∧ (half_end h' x v ∧ SL h')) :=
  hf_SL (by omega) rfl I.2.2 (c8_end ⟨I.1, I.2.1⟩) (tf_all (as := [.ref 0, .int v]) q8 (by decide +kernel) I.1 ⟨rfl, aI _, trivial⟩)
theorem d9_end (I : IVh h) (J : half_end h x v ∧ SL h) : Sp 100 241 h [.ref 77, .int v] (fun h' r => IVS h' ∧ r = some (.int x)) :=
  hs_SL (by omega) rfl J.2 (c9_end I J.1) (tf_all (as := [.ref 77, .int v]) q10 (by decide +kernel) I ⟨rfl, aI _, trivial⟩)
theorem d8_image (I : IVS h) : Sp 100 121 h [.ref 0, .int v] (fun h' r => IVh h' ∧ ∃ x : Int32, r = some (.int x) ∧ (half_image h' x v ∧ SL h')) :=
  hf_SL (by omega) rfl I.2.2 (c8_image ⟨I.1, I.2.1⟩) (tf_all (as := [.ref 0, .int v]) q905 (by decide +kernel) I.1 ⟨rfl, aI _, trivial⟩)
theorem d9_image (I : IVh h) (J : half_image h x v ∧ SL h) : Sp 100 260 h [.ref 77, .int v] (fun h' r => IVS h' ∧ r = some (.int x)) :=
  hs_SL (M := VMI) (T := fun h' _ => HH h') (d := 40) (by omega) rfl J.2 (c9_image I J.1) (Sp_mono (fun _ _ q => ⟨q.1, q.2.1⟩) (tv_image (d := 0) I.1 I.2.2))
theorem d8_back (I : IVS h) : Sp 100 82 h [.ref 0, .int v] (fun h' r => IVh h' ∧ ∃ x : Int32, r = some (.int x) ∧ (half_back h' x v ∧ SL h')) :=
  hf_SL (by omega) rfl I.2.2 (c8_back ⟨I.1, I.2.1⟩) (tf_all (as := [.ref 0, .int v]) q927 (by decide +kernel) I.1 ⟨rfl, aI _, trivial⟩)
theorem d9_back (I : IVh h) (J : half_back h x v ∧ SL h) : Sp 100 212 h [.ref 77, .int v] (fun h' r => IVS h' ∧ r = some (.int x)) :=
  hs_SL (M := VM) (T := fun h' _ => HH h') (d := 40) (by omega) rfl J.2 (c9_back I J.1) (Sp_mono (fun _ _ q => ⟨q.1, q.2.1⟩) (tv_back (d := 0) I.1 I.2.2))
end OLD
theorem beq_no {a b : Nat} (h : a ≠ b) : Nat.beq a b = false := by
  cases hq : Nat.beq a b with
  | false => rfl
  | true => exact absurd (Nat.eq_of_beq_eq_true hq) h
theorem no2 {a1 l1 u1 a2 l2 u2 b : Nat} (h1 : a1 ≠ b) (h2 : a2 ≠ b) (k : Nat) : rg_in [(a1, l1, u1), (a2, l2, u2)] b k = false := rg_no (by simp [beq_no h1, beq_no h2]) k
theorem RM9_no {s0 b k : Nat} (h1 : 77 ≠ b) (h2 : b ≠ 80) (h3 : b = 78 ∨ b = 79 → k ≠ s0) : rg_in (RM9 s0) b k = false := by
  cases hq : rg_in (RM9 s0) b k with
  | false => rfl
  | true =>
    obtain ⟨r, hr, hc⟩ := List.any_eq_true.mp hq
    simp only [Bool.and_eq_true] at hc
    have c1 := Nat.eq_of_beq_eq_true hc.1
    have c2 := Nat.le_of_ble_eq_true hc.2.1
    have c3 := Nat.le_of_ble_eq_true hc.2.2
    simp only [RM9, List.mem_cons, List.not_mem_nil, or_false] at hr
    rcases hr with rfl | rfl | rfl | rfl
    · exact absurd c1 h1
    · exact absurd (Nat.le_antisymm c3 c2) (h3 (.inl c1.symm))
    · exact absurd (Nat.le_antisymm c3 c2) (h3 (.inr c1.symm))
    · exact absurd c1.symm h2
/-- row: between the class's call and the reference's -/
noncomputable def half_row (h : pm_H) (x a b c : Int32) : Prop := REL h ∧ x = rowv a b c ∧ ∀ s, s < 4 → (rin a b c ∧ a = nJ s ∧ gi h (54 + 2 * s) 1 = 1 ∧ gi h (54 + 2 * s) 2 = b ∧ gi h (54 + 2 * s) 3 = c) ∨ (¬ (rin a b c ∧ a = nJ s) ∧ SL1 s h)
section ROW
variable {h : pm_H} {x a b c : Int32}
theorem d8_row (I : IVS h) : Sp 100 171 h [.ref 0, .int a, .int b, .int c] (fun h' r => IVh h' ∧ ∃ x : Int32, r = some (.int x) ∧ half_row h' x a b c) := by
  refine Sp_le (by first | exact Nat.add_le_add_left (Nat.le_of_ble_eq_true rfl) _ | exact Nat.le_of_ble_eq_true rfl | omega) (Sp_mono ?_ (Sp_and (top_all (as := [.ref 0, .int a, .int b, .int c]) q949 (by decide +kernel) I.1 ⟨rfl, aI _, aI _, aI _, trivial⟩) (sp_row8 (d := 0) I.1.1)))
  rintro h' r ⟨⟨s1, s2, -⟩, s3, s4⟩
  refine ⟨s1, _, s3, REL_fr s2 rfl I.2.1, rfl, fun s hs => ?_⟩
  rcases s4 with ⟨hr, -, s0, hs0, rfl, f0, g1, g2, g3⟩ | ⟨hr, rfl⟩
  · by_cases e : s = s0
    · subst e
      exact .inl ⟨hr, rfl, g1, g2, g3⟩
    · refine .inr ⟨fun q => e ?_, ?_⟩
      · exact ((nJ_eq (by omega) (by omega)).mp q.2).symm
      · exact SL1_eq (fr_gi f0 (no2 (by omega) (by omega) _)) (fr_gi f0 (no2 (by omega) (by omega) _)) (fr_gi f0 (no2 (by omega) (by omega) _)) (fr_gi f0 (no2 (by omega) (by omega) _)) (fr_gi f0 (no2 (by omega) (by omega) _)) (I.2.2 s hs)
  · exact .inr ⟨fun q => hr q.1, I.2.2 s hs⟩
theorem d9_row (I : IVh h) (J : half_row h x a b c) : Sp 100 338 h [.ref 77, .int a, .int b, .int c] (fun h' r => IVS h' ∧ r = some (.int x)) := by
  refine Sp_le (by first | exact Nat.add_le_add_left (Nat.le_of_ble_eq_true rfl) _ | exact Nat.le_of_ble_eq_true rfl | omega) (Sp_mono ?_ (Sp_and (top_all (as := [.ref 77, .int a, .int b, .int c]) q950 (by decide +kernel) I ⟨rfl, aI _, aI _, aI _, trivial⟩) (sp_row9 (d := 0) I.1)))
  rintro h' r ⟨⟨s1, s2, -⟩, s3, s4⟩
  obtain ⟨J1, rfl, J3⟩ := J
  refine ⟨⟨s1, REL_fr s2 rfl J1, fun s hs => ?_⟩, s3⟩
  rcases s4 with ⟨hr, -, s0, hs0, rfl, f0, g1, g2⟩ | ⟨hr, rfl⟩
  · have eA : ∀ k, gi h' (54 + 2 * s) k = gi h (54 + 2 * s) k := fun k => fr_gi f0 (RM9_no (by omega) (by omega) (by omega))
    rcases J3 s hs with ⟨-, e, j1, j2, j3⟩ | ⟨e, S⟩
    · have e := (nJ_eq (by omega) (by omega)).mp e
      subst e
      have z0 : (0 : Int32).toInt = 0 := rfl
      have nb : ¬ gi h' 78 s0 = -1 := fun q => by
        rw [g1] at q
        have q2 := hr.2.1.1
        rw [q] at q2
        exact absurd q2 (by decide)
      refine ⟨by rw [if_neg nb, eA]; exact j1, fun _ => by rw [eA, g1]; exact j2, by rw [eA, g2]; exact j3⟩
    · have ne : s ≠ s0 := fun q => e ⟨hr, by rw [q]⟩
      exact SL1_eq (eA _) (eA _) (eA _) (fr_gi f0 (RM9_no (by omega) (by omega) (fun _ => ne))) (fr_gi f0 (RM9_no (by omega) (by omega) (fun _ => ne))) S
  · rcases J3 s hs with ⟨q, -⟩ | ⟨-, S⟩
    · exact absurd q hr
    · exact SL1_eq (gi_ne (by first | exact gxx rfl | omega)) (gi_ne (by first | exact gxx rfl | omega)) (gi_ne (by first | exact gxx rfl | omega)) (gi_ne (by first | exact gxx rfl | omega)) (gi_ne (by first | exact gxx rfl | omega)) S
end ROW
noncomputable def half_write (h : pm_H) (x a b : Int32) : Prop := RES h ∧ x = wrv (rf h) (rm h) a b
theorem rf_fr {M : List Rng} {h h' : pm_H} (hf : fr_g M h h') (hb : slB M = true) (s : Nat) : rf h' s = rf h s ∧ rfw h' s = rfw h s ∧ rm h' s = rm h s := by
  have c2 := slB_r hb
  have e4 : gi h' 78 s = gi h 78 s := fr_gi hf (rg_no c2.1 _)
  have e5 : gi h' 79 s = gi h 79 s := fr_gi hf (rg_no c2.2 _)
  refine ⟨?_, e4, e5⟩
  unfold rf
  rw [e4]
theorem SL_cf {h : pm_H} (S : SL h) (s : Nat) (hs : s < 4) : cf h s = rf h s ∧ (¬ rf h s = 0 → cwd h s = rfw h s) ∧ cm h s = rm h s := by
  obtain ⟨S1, S2, S3⟩ := S s hs
  exact ⟨S1, fun q => S2 (fun e => q (rf_0 e)), S3⟩
section WRP
variable {h : pm_H} {x a b i j n : Int32} {v : Int64}
theorem d8_write (I : IVS h) : Sp 100 203 h [.ref 0, .int a, .int b, .long v] (fun h' r => IVh h' ∧ ∃ x : Int32, r = some (.int x) ∧ half_write h' x a b) := by
  refine Sp_le (by first | exact Nat.add_le_add_left (Nat.le_of_ble_eq_true rfl) _ | exact Nat.le_of_ble_eq_true rfl | omega) (Sp_mono ?_ (Sp_and (top_all (as := [.ref 0, .int a, .int b, .long v]) q952 (by decide +kernel) I.1 ⟨rfl, aI _, aI _, aL _, trivial⟩) (sp_write8 (d := 0) I.1.1)))
  rintro h' r ⟨⟨s1, s2, -⟩, s3⟩
  refine ⟨s1, _, s3, RES_fr s2 rfl I.2, wrv_eq (fun s hs => ?_) (fun s hs => ?_)⟩
  · rw [(rf_fr s2 rfl s).1]
    exact (SL_cf I.2.2 s hs).1
  · rw [(rf_fr s2 rfl s).2.2]
    exact (SL_cf I.2.2 s hs).2.2
theorem d9_write (I : IVh h) (J : half_write h x a b) : Sp 100 380 h [.ref 77, .int a, .int b, .long v] (fun h' r => IVS h' ∧ r = some (.int x)) := by
  refine Sp_le (by first | exact Nat.add_le_add_left (Nat.le_of_ble_eq_true rfl) _ | exact Nat.le_of_ble_eq_true rfl | omega) (Sp_mono ?_ (Sp_and (top_all (as := [.ref 77, .int a, .int b, .long v]) q955 (by decide +kernel) I ⟨rfl, aI _, aI _, aL _, trivial⟩) (sp_write9 (d := 0) I.1)))
  rintro h' r ⟨⟨s1, s2, -⟩, s3⟩
  obtain ⟨J1, rfl⟩ := J
  exact ⟨⟨s1, RES_fr s2 rfl J1⟩, s3⟩
noncomputable def half_paste (h : pm_H) (x a i b j n : Int32) : Prop := RES h ∧ x = pav (rf h) (rfw h) (rm h) a i b j n
theorem d8_paste (I : IVS h) : Sp 100 158 h [.ref 0, .int a, .int i, .int b, .int j, .int n] (fun h' r => IVh h' ∧ ∃ x : Int32, r = some (.int x) ∧ half_paste h' x a i b j n) := by
  refine Sp_le (by first | exact Nat.add_le_add_left (Nat.le_of_ble_eq_true rfl) _ | exact Nat.le_of_ble_eq_true rfl | omega) (Sp_mono ?_ (sp_paste8 (d := 0) I.1.1))
  rintro h' r ⟨q1, q2, x, q3, q4⟩
  refine ⟨IVh_fr (M := PM) (by decide +kernel) q2 q1 I.1 (RV_fr I.1.1 rfl q2 I.1.2.2), x, q3, RES_fr q2 rfl I.2, (psv_pav q4).trans (pav_eq (fun s hs => ?_) (fun s hs => ?_) (fun s hs => ?_))⟩
  · rw [(rf_fr q2 rfl s).1]
    exact (SL_cf I.2.2 s hs).1
  · rw [(rf_fr q2 rfl s).1, (rf_fr q2 rfl s).2.1]
    exact (SL_cf I.2.2 s hs).2.1
  · rw [(rf_fr q2 rfl s).2.2]
    exact (SL_cf I.2.2 s hs).2.2
theorem d9_paste (I : IVh h) (J : half_paste h x a i b j n) : Sp 100 323 h [.ref 77, .int a, .int i, .int b, .int j, .int n] (fun h' r => IVS h' ∧ r = some (.int x)) := by
  refine Sp_le (by first | exact Nat.add_le_add_left (Nat.le_of_ble_eq_true rfl) _ | exact Nat.le_of_ble_eq_true rfl | omega) (Sp_mono ?_ (Sp_and (top_all (as := [.ref 77, .int a, .int i, .int b, .int j, .int n]) q961 (by decide +kernel) I ⟨rfl, aI _, aI _, aI _, aI _, aI _, trivial⟩) (sp_paste9 (d := 0) I.1)))
  rintro h' r ⟨⟨s1, s2, -⟩, s3⟩
  obtain ⟨J1, rfl⟩ := J
  exact ⟨⟨s1, RES_fr s2 rfl J1⟩, s3⟩
end WRP
end
