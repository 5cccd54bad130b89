/-! the reference parks and lays, exactly; the street's numbers as both see them (wants u66, u67) -/
noncomputable def PKF : List Rng := [(77, 27, 27), (90, 0, 9), (91, 0, 7)]
noncomputable def LNF : List Rng := [(77, 22, 23), (77, 27, 27), (89, 0, 7), (90, 0, 9), (91, 0, 7)]
noncomputable def PKD (l p s : Nat) (W : Nat → Nat) (n : Nat) (h : pm_H) : Prop := gi h 77 27 = nJ (mss l p s W n) ∧ (∀ q, q ≤ 9 → gi h 90 q = pI (hd l p s W n q)) ∧ ∀ i, i < n → gi h 91 i = pO (spt l p s W i)
theorem hd_W {l p s n : Nat} {W W' : Nat → Nat} (e : ∀ c, c < n → W c = W' c) (q : Nat) : hd l p s W n q = hd l p s W' n q := by
  induction n with
  | zero => rfl
  | succ n ih =>
    have i := ih (fun c hc => e c (by omega))
    show (if spt l p s W n = q ∧ q ≠ 0 then n + 1 else hd l p s W n q) = (if spt l p s W' n = q ∧ q ≠ 0 then n + 1 else hd l p s W' n q)
    rw [i, spt_W (fun c hc => e c (by omega))]
theorem PKD_W {l p s n : Nat} {W W' : Nat → Nat} {h : pm_H} (e : ∀ c, c < n → W c = W' c) (k : PKD l p s W n h) : PKD l p s W' n h := by
  obtain ⟨k1, k2, k3⟩ := k
  refine ⟨by rw [k1, mss_W e], fun q hq => by rw [k2 q hq, hd_W e], fun i hi => ?_⟩
  rw [k3 i hi, spt_W (fun c hc => e c (by omega))]
theorem pI_n1 {n : Nat} (hn : n < 2147483648) : pI n = -1 ↔ n = 0 := by
  cases n with
  | zero => exact ⟨fun _ => rfl, fun _ => rfl⟩
  | succ k =>
    constructor
    · intro e
      have := congrArg Int32.toInt e
      rw [show pI (k + 1) = nJ k from rfl, nJ_toInt (by omega)] at this
      have z1 : (-1 : Int32).toInt = -1 := rfl
      omega
    · intro e; cases e
theorem pO_lo {q : Nat} (h : q ≤ 9) : (-1 : Int) ≤ (pO q).toInt ∧ (pO q).toInt ≤ 9 := by
  unfold pO
  by_cases z : q = 0
  · rw [if_pos z]; exact ⟨by decide, by decide⟩
  · rw [if_neg z, nJ_toInt (by omega)]; omega
theorem Sp_and1 {d e y : Nat} {h : pm_H} {as : List Value} {Q Q' : pm_H → Option Value → Prop} (a : Sp d y h as Q) (b : Sp e y h as Q') : Sp d y h as (fun h' r => Q h' r ∧ Q' h' r) := by
  obtain ⟨h1, r1, a1, a2⟩ := a
  have a' : Sp (d + e) y h as (fun h' r => h' = h1 ∧ r = r1) := Sp_up ⟨h1, r1, a1, rfl, rfl⟩ e
  obtain ⟨h3, r3, c1, rfl, rfl⟩ := a'
  obtain ⟨h2, r2, b1, b2⟩ := Sp_le (Nat.le_add_left e d) b
  obtain ⟨rfl, rfl⟩ := pm_Rt_det _ _ _ _ _ _ _ _ c1 b1
  exact ⟨_, _, a1, a2, b2⟩
section PARKS
variable {h0 : pm_H} {d : Nat}
theorem pkX_clr {Q : pm_H → Option Value → Prop} {x : Int32} (hh0 : HH h0) (j : Nat) : ∀ {h : pm_H} {k : Nat} (lv : List (Nat × Value)), k + j = 10 → HH h → fr_g PKF h0 h → gi h 77 27 = nJ 0 → (∀ q, q < k → gi h 90 q = -1) → pm_get lv 0 = some (.ref 77) → pm_get lv 1 = some (.int x) → pm_get lv 2 = some (.int (nJ k)) → (∀ (h' : pm_H) (lv' : List (Nat × Value)), HH h' → fr_g PKF h0 h' → gi h' 77 27 = nJ 0 → (∀ q, q ≤ 9 → gi h' 90 q = -1) → pm_get lv' 0 = some (.ref 77) → pm_get lv' 1 = some (.int x) → pm_get lv' 2 = some (.int (nJ 0)) → Ends (pm_at tX9_parks) (pm_Rt pm_P d) (28, lv', [], h', 0, 0) Q) → Ends (pm_at tX9_parks) (pm_Rt pm_P d) (7, lv, [], h, 0, 0) Q := by
  induction j with
  | zero =>
    intro h k lv hj hh hf g1 g2 L0 L1 L2 kk
    refine E_il rfl L2 ?_
    refine E_ci 10 rfl (by decide) ?_
    refine E_icT rfl (decide_eq_true ((nJ_le (by omega) (by omega)).mpr (by omega))) ?_
    refine E_ci 0 rfl (by decide) ?_
    refine E_is rfl (fun lv1 K2 kp => ?_)
    exact kk h lv1 hh hf g1 (fun q hq => g2 q (by omega)) (kp 0 _ (by decide) rfl L0) (kp 1 _ (by decide) rfl L1) K2
  | succ j ih =>
    intro h k lv hj hh hf g1 g2 L0 L1 L2 kk
    refine E_il rfl L2 ?_
    refine E_ci 10 rfl (by decide) ?_
    refine E_icF rfl (decide_eq_false (fun z => absurd ((nJ_le (by omega) (by omega)).mp z) (by omega))) ?_
    refine E_al rfl L0 ?_
    refine E_gr rfl hh (q := 90) rfl ?_
    refine E_il rfl L2 ?_
    refine E_c rfl ?_
    refine E_ias rfl hh rfl (by omega) (by decide) ?_
    have b : bd 90 k = some (-1, 7) := bd_u rfl (by omega)
    have hh1 : HH (pt h 90 k (-1)) := HH_pt hh b (by decide) (by decide)
    refine E_inc rfl L2 (nJ_inc _) (fun lv1 K2 kp => ?_)
    refine E_goto rfl ?_
    refine ih lv1 (by omega) hh1 (fr_ptr (l := 0) (u := 9) rfl (by omega) (by omega) hf) (by rw [gi_ne (by omega)]; exact g1) (fun q hq => ?_) (kp 0 _ (by decide) rfl L0) (kp 1 _ (by decide) rfl L1) K2 kk
    by_cases e : q = k
    · rw [e]; exact gi_pt hh b (by decide) (by decide)
    · rw [gi_ne (fun _ => e)]; exact g2 q (by omega)
theorem pkX_loop {l s : Nat} (hh0 : HH h0) (l3 : l ≤ 3) (s5 : s < 512) (gs : gi h0 77 23 = nJ s) (V : ∀ c, c < gn h0 84 3 → 1 ≤ gn h0 89 c ∧ gn h0 89 c ≤ gn h0 84 0) (j : Nat) : ∀ {h : pm_H} {c : Nat} (lv : List (Nat × Value)), c + j = gn h0 84 3 → HH h → fr_g PKF h0 h → PKD l (gn h0 84 0) s (gn h0 89) c h → pm_get lv 0 = some (.ref 77) → pm_get lv 1 = some (.int (nJ l)) → pm_get lv 2 = some (.int (nJ c)) → Ends (pm_at tX9_parks) (pm_Rt pm_P (d + 3)) (28, lv, [], h, 0, 0) (fun h' r => r = none ∧ HH h' ∧ fr_g PKF h0 h' ∧ PKD l (gn h0 84 0) s (gn h0 89) (gn h0 84 3) h') := by
  have n8 : gn h0 84 3 ≤ 8 := gn_hi hh0 rfl (by decide)
  have p8 : gn h0 84 0 ≤ 8 := gn_hi hh0 rfl (by decide)
  induction j with
  | zero =>
    intro h c lv hj hh hf K L0 L1 L2
    have ec : gn h 84 3 = gn h0 84 3 := fr_gn hf (rg_no rfl _)
    refine E_il rfl L2 ?_
    refine E_al rfl L0 ?_
    refine E_call rfl (Sp_le (by omega) (sp_cars (d := d) hh)) (chk77 hh rfl rfl (by show 1 ≤ 8; decide)) (fun h1 r1 => ?_)
    rintro ⟨e1, f1, -⟩
    rw [e1, f1, ec]
    refine E_icT rfl (decide_eq_true ((nJ_le (by omega) (by omega)).mpr (by omega))) ?_
    have e : c = gn h0 84 3 := by omega
    exact E_ret rfl ⟨rfl, hh, hf, e ▸ K⟩
  | succ j ih =>
    intro h c lv hj hh hf K L0 L1 L2
    obtain ⟨k1, k2, k3⟩ := K
    have ec : gn h 84 3 = gn h0 84 3 := fr_gn hf (rg_no rfl _)
    refine E_il rfl L2 ?_
    refine E_al rfl L0 ?_
    refine E_call rfl (Sp_le (by omega) (sp_cars (d := d) hh)) (chk77 hh rfl rfl (by show 1 ≤ 8; decide)) (fun h1 r1 => ?_)
    rintro ⟨e1, f1, -⟩
    rw [e1, f1, ec]
    refine E_icF rfl (decide_eq_false (fun z => absurd ((nJ_le (by omega) (by omega)).mp z) (by omega))) ?_
    refine E_al rfl L0 ?_
    refine E_gr rfl hh (q := 91) rfl ?_
    refine E_il rfl L2 ?_
    refine E_c rfl ?_
    refine E_ias rfl hh rfl (by omega) (by decide) ?_
    have b91 : bd 91 c = some (-1, 9) := bd_u rfl (by omega)
    have hg : HH (pt h 91 c (-1)) := HH_pt hh b91 (by decide) (by decide)
    have fg : fr_g PKF h0 (pt h 91 c (-1)) := fr_ptr (l := 0) (u := 7) rfl (by omega) (by omega) hf
    have g1 : gi (pt h 91 c (-1)) 77 27 = nJ (mss l (gn h0 84 0) s (gn h0 89) c) := by rw [gi_ne (by omega)]; exact k1
    have g2 : ∀ q, q ≤ 9 → gi (pt h 91 c (-1)) 90 q = pI (hd l (gn h0 84 0) s (gn h0 89) c q) := fun q hq => by rw [gi_ne (by omega)]; exact k2 q hq
    have g3 : ∀ i, i < c → gi (pt h 91 c (-1)) 91 i = pO (spt l (gn h0 84 0) s (gn h0 89) i) := fun i hi => by rw [gi_ne (by omega)]; exact k3 i hi
    have g4 : gi (pt h 91 c (-1)) 91 c = -1 := gi_pt hh b91 (by decide) (by decide)
    generalize pt h 91 c (-1) = g at hg fg g1 g2 g3 g4 ⊢
    have nx : ∀ {g' : pm_H} {lv' : List (Nat × Value)}, HH g' → fr_g PKF h0 g' → PKD l (gn h0 84 0) s (gn h0 89) (c + 1) g' → pm_get lv' 0 = some (.ref 77) → pm_get lv' 1 = some (.int (nJ l)) → pm_get lv' 2 = some (.int (nJ c)) → Ends (pm_at tX9_parks) (pm_Rt pm_P (d + 3)) (103, lv', [], g', 0, 0) (fun h' r => r = none ∧ HH h' ∧ fr_g PKF h0 h' ∧ PKD l (gn h0 84 0) s (gn h0 89) (gn h0 84 3) h') := by
      intro g' lv' a1 a2 a3 M0 M1 M2
      refine E_inc rfl M2 (nJ_inc _) (fun lv1 K2 kp => ?_)
      refine E_goto rfl ?_
      exact ih lv1 (by omega) a1 a2 a3 (kp 0 _ (by decide) rfl M0) (kp 1 _ (by decide) rfl M1) K2
    refine E_al rfl L0 ?_
    refine E_gf rfl hg rfl (show gi g 77 23 = nJ s from by rw [fr_gi fg rfl]; exact gs) ?_
    refine E_il rfl L2 ?_
    refine E_call rfl (Sp_le (by omega) (sp_isBit (d := d) s5 (show c < 9 by omega))) (chkS rfl (by show 0 ≤ 8; decide)) (fun h2 r2 => ?_)
    rintro ⟨e2, f2⟩
    rw [e2, f2]
    have ms := mss_lt (l := l) (p := gn h0 84 0) (s := s) (W := gn h0 89) c
    cases b : isB s c with
    | false =>
      have b' : ¬ isB s c = true := by rw [b]; decide
      have es : spt l (gn h0 84 0) s (gn h0 89) c = 0 := by unfold spt; rw [if_neg b']
      refine E_ifF rfl rfl ?_
      refine E_goto rfl ?_
      refine nx hg fg ⟨?_, fun q hq => ?_, fun i hi => ?_⟩ L0 L1 L2
      · show _ = nJ (if isB s c = true ∧ spt l (gn h0 84 0) s (gn h0 89) c = 0 then _ else _)
        rw [if_neg (fun q => b' q.1)]; exact g1
      · show _ = pI (if spt l (gn h0 84 0) s (gn h0 89) c = q ∧ q ≠ 0 then c + 1 else _)
        rw [if_neg (by rw [es]; rintro ⟨a, a'⟩; exact a' a.symm)]; exact g2 q hq
      · by_cases e : i = c
        · rw [e, g4, es]; rfl
        · exact g3 i (by omega)
    | true =>
      have v := V c (by omega)
      have es : spt l (gn h0 84 0) s (gn h0 89) c = sf l (gn h0 84 0) (tk l (gn h0 84 0) s (gn h0 89) c) (gn h0 89 c) := by unfold spt; rw [if_pos b]
      have ok := spt_ok (l := l) (s := s) (W := gn h0 89) v.1 v.2
      have q9 : spt l (gn h0 84 0) s (gn h0 89) c ≤ 9 := by rcases ok with e | ⟨_, e, _⟩ <;> omega
      have ep : gn g 84 0 = gn h0 84 0 := fr_gn fg (rg_no rfl _)
      refine E_ifT rfl rfl ?_
      refine E_al rfl L0 ?_
      refine E_al rfl L0 ?_
      refine E_gr rfl hg (q := 89) rfl ?_
      refine E_il rfl L2 ?_
      refine E_ial rfl hg rfl (by omega) (by decide) (show gi g 89 c = nJ (gn h0 89 c) from by rw [fr_gi fg (rg_no rfl _)]; exact gi_gn hh0 (q := (0, 8)) (bd_u rfl (by omega)) (by decide)) ?_
      refine E_il rfl L1 ?_
      refine E_call rfl (sp_findsBy (d := d) (m := tk l (gn h0 84 0) s (gn h0 89) c) hg l3 v.1 (by rw [ep]; exact v.2) (by
        rw [ep]
        intro q q1 qp
        have h9 := hd_le (l := l) (p := gn h0 84 0) (s := s) (W := gn h0 89) (q := q) c
        rw [g2 q (by omega), pI_n1 (by omega)]
        exact hd_free (by omega) (fun i hi => V i (by omega)) q q1 (by omega))) (chk77 hg rfl rfl (by show 0 ≤ 8; decide)) (fun h3 r3 => ?_)
      rintro ⟨e3, f3⟩
      rw [e3, f3, ep, ← es]
      generalize eq : spt l (gn h0 84 0) s (gn h0 89) c = q0 at ok q9 ⊢
      refine E_is rfl (fun lv1 K3 kp => ?_)
      have M0 := kp 0 _ (by decide) rfl L0
      have M1 := kp 1 _ (by decide) rfl L1
      have M2 := kp 2 _ (by decide) rfl L2
      refine E_al rfl M0 ?_
      refine E_gr rfl hg (q := 91) rfl ?_
      refine E_il rfl M2 ?_
      refine E_il rfl K3 ?_
      refine E_ias rfl hg rfl (by omega) (by decide) ?_
      have pl := pO_lo q9
      have hk : HH (pt g 91 c (pO q0)) := HH_pt hg b91 pl.1 pl.2
      have fk : fr_g PKF h0 (pt g 91 c (pO q0)) := fr_ptr (l := 0) (u := 7) rfl (by omega) (by omega) fg
      have m1 : gi (pt g 91 c (pO q0)) 77 27 = nJ (mss l (gn h0 84 0) s (gn h0 89) c) := by rw [gi_ne (by omega)]; exact g1
      have m2 : ∀ q, q ≤ 9 → gi (pt g 91 c (pO q0)) 90 q = pI (hd l (gn h0 84 0) s (gn h0 89) c q) := fun q hq => by rw [gi_ne (by omega)]; exact g2 q hq
      have m3 : ∀ i, i < c + 1 → gi (pt g 91 c (pO q0)) 91 i = pO (spt l (gn h0 84 0) s (gn h0 89) i) := fun i hi => by
        by_cases e : i = c
        · rw [e, eq]; exact gi_pt hg b91 pl.1 pl.2
        · rw [gi_ne (fun _ => e)]; exact g3 i (by omega)
      generalize pt g 91 c (pO q0) = k at hk fk m1 m2 m3 ⊢
      refine E_il rfl K3 ?_
      refine E_c rfl ?_
      by_cases z : q0 = 0
      · refine E_icF rfl (decide_eq_false (fun w => w ((pO_n1 (by omega)).mpr z))) ?_
        refine E_al rfl M0 ?_
        refine E_dup rfl rfl ?_
        refine E_gf rfl hk rfl m1 ?_
        refine E_ci 1 rfl (by decide) ?_
        refine E_il rfl M2 ?_
        refine E_bin rfl rfl ?_
        have m5 : mss l (gn h0 84 0) s (gn h0 89) c < 256 := Nat.lt_of_lt_of_le ms (Nat.le_trans (Nat.pow_le_pow_right (n := 2) (by omega) (show c ≤ 8 by omega)) (by decide))
        refine E_bin rfl (or_new (by omega) (by omega) (isB_hi ms)) ?_
        have e2 : mss l (gn h0 84 0) s (gn h0 89) c + 2 ^ c ≤ 255 := by
          have : 2 ^ (c + 1) = 2 ^ c + 2 ^ c := by rw [Nat.pow_succ]; omega
          have : 2 ^ (c + 1) ≤ 2 ^ 8 := Nat.pow_le_pow_right (by omega) (by omega)
          omega
        refine E_pf rfl hk rfl ?_
        refine E_goto rfl ?_
        refine nx (HH_ptn hk rfl (by omega) (by omega) (by omega)) (fr_ptr (l := 27) (u := 27) rfl (by omega) (by omega) fk) ⟨?_, fun q hq => ?_, fun i hi => ?_⟩ M0 M1 M2
        · show _ = nJ (if isB s c = true ∧ spt l (gn h0 84 0) s (gn h0 89) c = 0 then _ else _)
          rw [if_pos ⟨b, by rw [eq]; exact z⟩]
          exact gi_ptn hk rfl (by omega) (by omega) (by omega)
        · show _ = pI (if spt l (gn h0 84 0) s (gn h0 89) c = q ∧ q ≠ 0 then c + 1 else _)
          rw [eq, if_neg (by rw [z]; rintro ⟨a, a'⟩; exact a' a.symm), gi_ne (by omega)]; exact m2 q hq
        · rw [gi_ne (by omega)]; exact m3 i hi
      · obtain ⟨q1, qp, qf⟩ : 1 ≤ q0 ∧ q0 ≤ gn h0 84 0 ∧ isB (tk l (gn h0 84 0) s (gn h0 89) c) (q0 - 1) = false := by rcases ok with e | e; exact absurd e z; exact e
        refine E_icT rfl (decide_eq_true (fun w => z ((pO_n1 (by omega)).mp w))) ?_
        have ez : pO q0 = nJ q0 := by unfold pO; rw [if_neg z]
        rw [ez] at K3
        refine E_al rfl M0 ?_
        refine E_gr rfl hk (q := 90) rfl ?_
        refine E_il rfl K3 ?_
        refine E_il rfl M2 ?_
        refine E_ias rfl hk rfl (by omega) (by decide) ?_
        have b90 : bd 90 q0 = some (-1, 7) := bd_u rfl (by omega)
        refine nx (HH_ptn hk b90 (by omega) (by omega) (by omega)) (fr_ptr (l := 0) (u := 9) rfl (by omega) (by omega) fk) ⟨?_, fun q hq => ?_, fun i hi => ?_⟩ M0 M1 M2
        · show _ = nJ (if isB s c = true ∧ spt l (gn h0 84 0) s (gn h0 89) c = 0 then _ else _)
          rw [if_neg (by rw [eq]; exact fun w => z w.2), gi_ne (by omega)]; exact m1
        · show _ = pI (if spt l (gn h0 84 0) s (gn h0 89) c = q ∧ q ≠ 0 then c + 1 else _)
          rw [eq]
          by_cases e : q0 = q
          · rw [if_pos ⟨e, by omega⟩, ← e]
            exact gi_ptn hk b90 (by omega) (by omega) (by omega)
          · rw [if_neg (fun w => e w.1), gi_ne (fun _ w => e w.symm)]; exact m2 q hq
        · rw [gi_ne (by omega)]; exact m3 i hi
theorem sp_parksX {l s : Nat} (hh0 : HH h0) (l3 : l ≤ 3) (s5 : s < 512) (gs : gi h0 77 23 = nJ s) (V : ∀ c, c < gn h0 84 3 → 1 ≤ gn h0 89 c ∧ gn h0 89 c ≤ gn h0 84 0) : Sp (d + 4) 320 h0 [.ref 77, .int (nJ l)] (fun h' r => r = none ∧ HH h' ∧ fr_g PKF h0 h' ∧ PKD l (gn h0 84 0) s (gn h0 89) (gn h0 84 3) h') := by
  refine Sp_of aiX9_parks rfl rfl rfl ?_
  have L0 : pm_get (lv_args 0 [.ref 77, .int (nJ l)]) 0 = some (.ref 77) := rfl
  have L1 : pm_get (lv_args 0 [.ref 77, .int (nJ l)]) 1 = some (.int (nJ l)) := rfl
  generalize lv_args 0 [.ref 77, .int (nJ l)] = lv at L0 L1 ⊢
  refine E_al rfl L0 ?_
  refine E_ci 0 rfl (by decide) ?_
  refine E_pf rfl hh0 rfl ?_
  have hg : HH (pt h0 77 27 (nJ 0)) := HH_ptn hh0 rfl (by omega) (by omega) (by omega)
  refine E_ci 0 rfl (by decide) ?_
  refine E_is rfl (fun lv1 K2 kp => ?_)
  refine pkX_clr hh0 10 lv1 (by omega) hg (fr_ptr (l := 27) (u := 27) rfl (by omega) (by omega) (fr_rf _ _)) (gi_ptn hh0 rfl (by omega) (by omega) (by omega)) (fun q hq => absurd hq (Nat.not_lt_zero q)) (kp 0 _ (by decide) rfl L0) (kp 1 _ (by decide) rfl L1) K2 (fun h' lv' a1 a2 a3 a4 M0 M1 M2 => ?_)
  exact pkX_loop hh0 l3 s5 gs V (gn h0 84 3) (c := 0) lv' (by omega) a1 a2 ⟨a3, fun q hq => a4 q hq, fun i hi => absurd hi (Nat.not_lt_zero i)⟩ M0 M1 M2
/-! the street's numbers, by the reference's cells -/
noncomputable def L9 (h : pm_H) : Nat := gn h 84 1
noncomputable def P9 (h : pm_H) : Nat := gn h 84 0
noncomputable def N9 (h : pm_H) : Nat := gn h 84 3
noncomputable def SP9 (h : pm_H) (i : Nat) : Nat := spt (L9 h) (P9 h) (2 ^ N9 h - 1) (W9 h) i
noncomputable def MS9 (h : pm_H) : Nat := mss (L9 h) (P9 h) (2 ^ N9 h - 1) (W9 h) (N9 h)
noncomputable def TK9 (h : pm_H) : Nat := tk (L9 h) (P9 h) (2 ^ N9 h - 1) (W9 h) (N9 h)
noncomputable def WL9 (h : pm_H) : Nat := wlk (L9 h) (P9 h) (2 ^ N9 h - 1) (W9 h) (N9 h)
noncomputable def HD9 (h : pm_H) (q : Nat) : Nat := hd (L9 h) (P9 h) (2 ^ N9 h - 1) (W9 h) (N9 h) q
/-- what a heap must keep of another for these numbers -/
noncomputable def K9 (h h' : pm_H) : Prop := (∀ k, gn h' 84 k = gn h 84 k) ∧ (∀ k, gn h' 85 k = gn h 85 k) ∧ (∀ k, gn h' 87 k = gn h 87 k) ∧ ∀ k, gi h' 83 k = gi h 83 k
theorem W9_K {h h' : pm_H} (k : K9 h h') : W9 h' = W9 h := by
  obtain ⟨e4, e5, e7, -⟩ := k
  have a : C9 h' = C9 h := funext (fun i => e7 _)
  have b : G9 h' = G9 h := funext (fun i => e7 _)
  have c : Z9 h' = Z9 h := funext (fun i => e7 _)
  have d : t9 h' = t9 h := funext (fun i => e5 _)
  unfold W9
  rw [a, b, c, d, e4]
theorem V9_K {h h' : pm_H} (k : K9 h h') (V : V9 h) : V9 h' := by
  obtain ⟨e4, e5, e7, -⟩ := k
  intro i hi
  rw [e4] at hi
  have q := V i hi
  unfold vAct C9 G9 Z9 at q ⊢
  rw [e4, e4, e7, e7, e7]
  exact q
theorem L9_K {h h' : pm_H} (k : K9 h h') : L9 h' = L9 h := k.1 _
theorem P9_K {h h' : pm_H} (k : K9 h h') : P9 h' = P9 h := k.1 _
theorem N9_K {h h' : pm_H} (k : K9 h h') : N9 h' = N9 h := k.1 _
theorem SP9_K {h h' : pm_H} (k : K9 h h') : SP9 h' = SP9 h := by funext i; unfold SP9; rw [L9_K k, P9_K k, N9_K k, W9_K k]
theorem MS9_K {h h' : pm_H} (k : K9 h h') : MS9 h' = MS9 h := by unfold MS9; rw [L9_K k, P9_K k, N9_K k, W9_K k]
theorem TK9_K {h h' : pm_H} (k : K9 h h') : TK9 h' = TK9 h := by unfold TK9; rw [L9_K k, P9_K k, N9_K k, W9_K k]
theorem WL9_K {h h' : pm_H} (k : K9 h h') : WL9 h' = WL9 h := by unfold WL9; rw [L9_K k, P9_K k, N9_K k, W9_K k]
theorem HD9_K {h h' : pm_H} (k : K9 h h') : HD9 h' = HD9 h := by funext i; unfold HD9; rw [L9_K k, P9_K k, N9_K k, W9_K k]
theorem K9_fr {M : List Rng} {h h' : pm_H} (hf : fr_g M h h') (h4 : M.all (fun r => !(Nat.beq r.1 84)) = true) (h5 : M.all (fun r => !(Nat.beq r.1 85)) = true) (h7 : M.all (fun r => !(Nat.beq r.1 87)) = true) (h3 : M.all (fun r => !(Nat.beq r.1 83)) = true) : K9 h h' := ⟨fun k => fr_gn hf (rg_no h4 k), fun k => fr_gn hf (rg_no h5 k), fun k => fr_gn hf (rg_no h7 k), fun k => fr_gi hf (rg_no h3 k)⟩
theorem K9_77 {h : pm_H} {v : Int32} : K9 h (pt h 77 0 v) := ⟨fun k => gn_ne (by omega), fun k => gn_ne (by omega), fun k => gn_ne (by omega), fun k => gi_ne (by omega)⟩
/-- wishes lie within the places -/
noncomputable def B9 (h : pm_H) : Prop := ∀ c, c < N9 h → 1 ≤ W9 h c ∧ W9 h c ≤ P9 h
theorem B9_K {h h' : pm_H} (k : K9 h h') (B : B9 h) : B9 h' := by
  intro c hc
  rw [N9_K k] at hc
  rw [W9_K k, P9_K k]
  exact B c hc
theorem B9_of {h : pm_H} (R : QRE h) : B9 h := fun c hc => (now_eq R c hc).2
theorem g9s {h : pm_H} (hh : HH h) : L9 h ≤ 3 ∧ P9 h ≤ 8 ∧ N9 h ≤ 8 := ⟨gn_hi hh rfl (by decide), gn_hi hh rfl (by decide), gn_hi hh rfl (by decide)⟩
/-- what laysNow leaves -/
noncomputable def LN9 (h h' : pm_H) : Prop := HH h' ∧ fr_g LNF h h' ∧ gi h' 77 27 = nJ (MS9 h) ∧ (∀ q, q ≤ 9 → gi h' 90 q = pI (HD9 h q)) ∧ (∀ i, i < N9 h → gi h' 91 i = pO (SP9 h i)) ∧ ∀ i, i < N9 h → gi h' 89 i = nJ (W9 h i)
theorem sp_laysNowX (hh0 : HH h0) (hV : V9 h0) (hB : B9 h0) : Sp (d + 5) 296 h0 [.ref 77] (fun h' r => r = none ∧ LN9 h0 h') := by
  obtain ⟨l3, p8, n8⟩ := g9s hh0
  refine Sp_of aiX9_laysNow rfl rfl rfl ?_
  have L0 : pm_get (lv_args 0 [.ref 77]) 0 = some (.ref 77) := rfl
  generalize lv_args 0 [.ref 77] = lv at L0 ⊢
  refine E_al rfl L0 ?_
  refine E_call rfl (Sp_le (by omega) (sp_laysX (d := d) hh0 hV)) (chk77 hh0 rfl rfl (by show 0 ≤ 8; decide)) (fun h1 r1 => ?_)
  rintro ⟨e1, hh1, f1, a1, a2, a3⟩
  rw [e1]
  have e0 : gn h1 84 0 = P9 h0 := fr_gn f1 (rg_no rfl _)
  have e3 : gn h1 84 3 = N9 h0 := fr_gn f1 (rg_no rfl _)
  have wb : ∀ c, c < gn h1 84 3 → 1 ≤ gn h1 89 c ∧ gn h1 89 c ≤ gn h1 84 0 := fun c hc => by
    rw [e3] at hc
    rw [a3 c hc, e0]
    exact hB c hc
  refine E_al rfl L0 ?_
  refine E_al rfl L0 ?_
  refine E_gf rfl hh1 rfl a1 ?_
  refine E_call rfl (sp_parksX (d := d) (l := gn h0 84 1) hh1 l3 (all_lt n8) a2 wb) (chk77 hh1 rfl rfl (by show 0 ≤ 8; decide)) (fun h2 r2 => ?_)
  rintro ⟨e2, hh2, f2, t2⟩
  rw [e2]
  rw [e0, e3] at t2
  obtain ⟨t1, t3, t4⟩ := PKD_W (W' := W9 h0) (fun c hc => a3 c hc) t2
  refine E_ret rfl ⟨rfl, hh2, fr_trans (fr_wk rfl f1) (fr_wk rfl f2), t1, t3, t4, fun i hi => ?_⟩
  rw [fr_gi f2 (rg_no rfl _), gi_gn hh1 (q := (0, 8)) (bd_u rfl (by omega)) (by decide), a3 i hi]
/-- what laysNow leaves, by the numbers of a heap that knows the same street -/
noncomputable def LV9 (h h' : pm_H) : Prop := HH h' ∧ gn h' 84 0 = P9 h ∧ gn h' 84 3 = N9 h ∧ gi h' 77 27 = nJ (MS9 h) ∧ (∀ q, q ≤ 9 → gi h' 90 q = pI (HD9 h q)) ∧ (∀ i, i < N9 h → gi h' 91 i = pO (SP9 h i)) ∧ ∀ i, i < N9 h → gi h' 89 i = nJ (W9 h i)
theorem LV9_of {h g h' : pm_H} (k : K9 h g) (T : LN9 g h') : LV9 h h' := by
  obtain ⟨a1, a2, a3, a4, a5, a6⟩ := T
  rw [MS9_K k] at a3
  rw [HD9_K k] at a4
  rw [SP9_K k, N9_K k] at a5
  rw [W9_K k, N9_K k] at a6
  exact ⟨a1, (fr_gn a2 (rg_no rfl _)).trans (P9_K k), (fr_gn a2 (rg_no rfl _)).trans (N9_K k), a3, a4, a5, a6⟩
/-- the class's Lot in the same numbers -/
noncomputable def LT9 (h h' : pm_H) : Prop := HH h' ∧ fr_g FL h h' ∧ gi h' 62 1 = nJ (TK9 h) ∧ gi h' 62 2 = nJ (MS9 h) ∧ gi h' 62 3 = nJ (WL9 h) ∧ (∀ i, i < N9 h → gi h' 63 i = nJ (SP9 h i)) ∧ gi h' 15 4 = nJ (N9 h) ∧ gi h' 15 0 = nJ (P9 h) ∧ ∀ i, i < N9 h → gi h' 17 i = nJ (W9 h i)
theorem sp_parkAllX (hh : HH h0) (R : QRE h0) : Sp (d + 5) 154 h0 [.ref 0] (fun h' r => r = none ∧ LT9 h0 h') := by
  have s := R.2.1.1
  have e4 : gn h0 15 4 = N9 h0 := gn_eq s.2.2.1
  have e0 : gn h0 15 0 = P9 h0 := gn_eq (s.2.1 0 (by omega))
  have e1 : gn h0 15 1 = L9 h0 := gn_eq (s.2.1 1 (by omega))
  obtain ⟨-, -, n8⟩ := g9s hh
  have ne : ∀ c, c < N9 h0 → gn h0 17 c = W9 h0 c := fun c hc => (now_eq R c hc).1
  refine Sp_mono ?_ (sp_parkAll (d := d) hh (fun c hc => by rw [e4] at hc; rw [ne c hc, e0]; exact B9_of R c hc))
  rintro h' r ⟨rfl, a1, a2, a3⟩
  rw [e4, e0, e1] at a3
  obtain ⟨t1, t2, t3, t4⟩ := a3
  refine ⟨rfl, a1, a2, ?_, ?_, ?_, fun i hi => ?_, ?_, ?_, fun i hi => ?_⟩
  · rw [t1, sf_W (W' := W9 h0) ne]; rfl
  · rw [t2, mss_W (W' := W9 h0) ne]; rfl
  · rw [t3, wlk_W (W' := W9 h0) ne]; rfl
  · rw [t4 i hi, spt_W (W' := W9 h0) (fun c hc => ne c (by omega))]; rfl
  · rw [fr_gi a2 (rg_no rfl _), ← e4]; exact gi_gn hh rfl (by decide)
  · rw [fr_gi a2 (rg_no rfl _), ← e0]; exact gi_gn hh rfl (by decide)
  · rw [fr_gi a2 (rg_no rfl _), ← ne i hi]; exact gi_gn hh (q := (0, 8)) (bd_u rfl (by omega)) (by decide)
/-! answers -/
noncomputable def qv (h : pm_H) (v : Int32) : Int32 := if 0 < (gi h 83 0).toInt then v else -2
noncomputable def cq (h : pm_H) (f : Nat → Int32) (x : Int32) : Int32 := if 0 ≤ x.toInt ∧ x.toInt < (N9 h : Int) then f x.toInt.toNat else -2
noncomputable def pq (h : pm_H) (f : Nat → Int32) (x : Int32) : Int32 := if 0 < (gi h 83 0).toInt ∧ 1 ≤ x.toInt ∧ x.toInt ≤ (P9 h : Int) then f x.toInt.toNat else -2
theorem qv_K {h h' : pm_H} {v : Int32} (k : K9 h h') : qv h' v = qv h v := by unfold qv; rw [k.2.2.2]
theorem cq_K {h h' : pm_H} {f : Nat → Int32} {x : Int32} (k : K9 h h') : cq h' f x = cq h f x := by unfold cq; rw [N9_K k]
theorem pq_K {h h' : pm_H} {f : Nat → Int32} {x : Int32} (k : K9 h h') : pq h' f x = pq h f x := by unfold pq; rw [k.2.2.2, P9_K k]
theorem st_eq {h : pm_H} (R : QRE h) : 0 < gn h 15 0 ↔ 0 < (gi h 83 0).toInt := by
  obtain ⟨s1, -, -, -, s5⟩ := R.2.1.1
  rw [s1] at s5
  constructor
  · intro a
    exact Decidable.byContradiction (fun q => by have := s5.mpr q; omega)
  · intro a
    rcases Nat.eq_zero_or_pos (gn h 15 0) with z | z
    · exact absurd a (s5.mp z)
    · exact z
theorem SP9_ok {h : pm_H} (B : B9 h) {i : Nat} (hi : i < N9 h) : okS (P9 h) (tk (L9 h) (P9 h) (2 ^ N9 h - 1) (W9 h) i) (SP9 h i) := spt_ok (B i hi).1 (B i hi).2
theorem SP9_le {h : pm_H} (B : B9 h) {i : Nat} (hi : i < N9 h) : SP9 h i ≤ P9 h := by rcases SP9_ok B hi with e | ⟨_, e, _⟩ <;> omega
noncomputable def ds9 (h : pm_H) (i : Nat) : Nat := dst (SP9 h i) (W9 h i)
theorem ds9_K {h h' : pm_H} (k : K9 h h') : ds9 h' = ds9 h := by funext i; unfold ds9; rw [SP9_K k, W9_K k]
theorem sp_stepsInLot {h h2 : pm_H} (hh : HH h) (B : B9 h) (T : LT9 h h2) {i : Nat} (hi : i < N9 h) : Sp (d + 2) 184 h2 [.ref 0, .int (nJ i)] (fun h' r => h' = h2 ∧ r = some (.int (nJ (ds9 h i)))) := by
  obtain ⟨hh2, f, t1, t2, t3, t4, t5, t6, t7⟩ := T
  obtain ⟨-, p8, n8⟩ := g9s hh
  have s8 := SP9_le B hi
  have w8 := (B i hi).2
  refine Sp_of aiX8_stepsInLot rfl rfl rfl ?_
  have L0 : pm_get (lv_args 0 [.ref 0, .int (nJ i)]) 0 = some (.ref 0) := rfl
  have L1 : pm_get (lv_args 0 [.ref 0, .int (nJ i)]) 1 = some (.int (nJ i)) := rfl
  generalize lv_args 0 [.ref 0, .int (nJ i)] = lv at L0 L1 ⊢
  refine E_al rfl L0 ?_
  refine E_ogr (q := 62) rfl hh2 rfl rfl ?_
  refine E_ogr (q := 63) rfl hh2 rfl rfl ?_
  refine E_il rfl L1 ?_
  refine E_ial rfl hh2 rfl (by omega) (by decide) (t4 i hi) ?_
  refine E_al rfl L0 ?_
  refine E_ogr (q := 15) rfl hh2 rfl rfl ?_
  refine E_ogr (q := 17) rfl hh2 rfl rfl ?_
  refine E_il rfl L1 ?_
  refine E_ial rfl hh2 rfl (by omega) (by decide) (t7 i hi) ?_
  refine E_bin rfl rfl ?_
  refine E_call rfl (sp_absD (d := d) (by omega) (by omega)) (chkS rfl (by show 0 ≤ 8; decide)) (fun h3 r3 => ?_)
  rintro ⟨e3, f3⟩
  rw [e3, f3]
  exact E_rti rfl ⟨rfl, rfl⟩
theorem sp_far0 {h : pm_H} {a b : Nat} (ha : a < 1000) (hb : b < 1000) : Sp (d + 1) 245 h [.int (nJ a), .int (nJ b)] (fun h' r => h' = h ∧ r = some (.int (nJ (dst a b)))) := by
  refine Sp_of aiX9_far0 rfl rfl rfl ?_
  have L0 : pm_get (lv_args 0 [.int (nJ a), .int (nJ b)]) 0 = some (.int (nJ a)) := rfl
  have L1 : pm_get (lv_args 0 [.int (nJ a), .int (nJ b)]) 1 = some (.int (nJ b)) := rfl
  generalize lv_args 0 [.int (nJ a), .int (nJ b)] = lv at L0 L1 ⊢
  refine E_il rfl L0 ?_
  refine E_il rfl L1 ?_
  by_cases c : b ≤ a
  · refine E_icT rfl (decide_eq_true ((nJ_le (by omega) (by omega)).mpr c)) ?_
    refine E_il rfl L0 ?_
    refine E_il rfl L1 ?_
    refine E_bin rfl (nJ_sub c) ?_
    exact E_rti rfl ⟨rfl, by unfold dst; rw [show a - b + (b - a) = a - b by omega]⟩
  · refine E_icF rfl (decide_eq_false (fun z => c ((nJ_le (by omega) (by omega)).mp z))) ?_
    refine E_il rfl L1 ?_
    refine E_il rfl L0 ?_
    refine E_bin rfl (nJ_sub (by omega)) ?_
    refine E_goto rfl ?_
    exact E_rti rfl ⟨rfl, by unfold dst; rw [show a - b + (b - a) = b - a by omega]⟩
theorem sp_stepsOf {h h2 : pm_H} (hh : HH h) (B : B9 h) (T : LV9 h h2) {i : Nat} (hi : i < N9 h) (z : ¬ SP9 h i = 0) : Sp (d + 2) 353 h2 [.ref 77, .int (nJ i)] (fun h' r => h' = h2 ∧ r = some (.int (nJ (ds9 h i)))) := by
  obtain ⟨hh2, u0, u3, t1, t2, t3, t4⟩ := T
  obtain ⟨-, p8, n8⟩ := g9s hh
  have s8 := SP9_le B hi
  have w8 := (B i hi).2
  refine Sp_of aiX9_stepsOf rfl rfl rfl ?_
  have L0 : pm_get (lv_args 0 [.ref 77, .int (nJ i)]) 0 = some (.ref 77) := rfl
  have L1 : pm_get (lv_args 0 [.ref 77, .int (nJ i)]) 1 = some (.int (nJ i)) := rfl
  generalize lv_args 0 [.ref 77, .int (nJ i)] = lv at L0 L1 ⊢
  refine E_al rfl L0 ?_
  refine E_gr rfl hh2 (q := 91) rfl ?_
  refine E_il rfl L1 ?_
  refine E_ial rfl hh2 rfl (by omega) (by decide) (show gi h2 91 i = nJ (SP9 h i) from by rw [t3 i hi]; unfold pO; rw [if_neg z]) ?_
  refine E_al rfl L0 ?_
  refine E_gr rfl hh2 (q := 89) rfl ?_
  refine E_il rfl L1 ?_
  refine E_ial rfl hh2 rfl (by omega) (by decide) (t4 i hi) ?_
  refine E_call rfl (sp_far0 (d := d) (by omega) (by omega)) (chkS rfl (by show 0 ≤ 8; decide)) (fun h3 r3 => ?_)
  rintro ⟨e3, f3⟩
  rw [e3, f3]
  exact E_rti rfl ⟨rfl, rfl⟩
end PARKS
