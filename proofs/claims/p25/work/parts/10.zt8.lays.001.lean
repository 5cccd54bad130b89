section
noncomputable def YM : List Rng := [(77, 22, 23), (89, 0, 7)]
theorem ly_two {h0 : pm_H} {d : Nat} (hh0 : HH h0) (hR : RI 0 h0) (j : Nat) : ∀ {h : pm_H} {k : Nat} (lv : List (Nat × Value)), k + j = gn h0 84 5 → HH h → fr_g YM h0 h → (∀ c, c < gn h0 84 3 → 1 ≤ gn h 89 c) → pm_get lv 0 = some (.ref 77) → pm_get lv 1 = some (.int (nJ k)) → Ends (pm_at tX9_lays) (pm_Rt pm_P (d + 1)) (54, lv, [], h, 0, 0) (fun h' r => r = none ∧ HH h' ∧ fr_g YM h0 h' ∧ ∀ c, c < gn h' 84 3 → 1 ≤ gn h' 89 c) := by
  have hK : gn h0 84 5 ≤ 20 := gn_hi hh0 rfl (by decide)
  have hC : gn h0 84 3 ≤ 8 := gn_hi hh0 rfl (by decide)
  induction j with
  | zero =>
    intro h k lv hj hh hfr hw L0 L1
    have hce : gn h 84 3 = gn h0 84 3 := fr_gn hfr (rg_no rfl _)
    refine E_il rfl L1 ?_
    refine E_al rfl L0 ?_
    refine E_gr rfl hh (q := 84) rfl ?_
    refine E_ci 5 rfl (by decide) ?_
    refine E_ial rfl hh rfl (by omega) (by decide) (show gi h 84 5 = nJ ((gn h0 84 5)) from by rw [fr_gi hfr (rg_no rfl _)]; exact gi_gn hh0 rfl (by decide)) ?_
    refine E_icT rfl (decide_eq_true ((nJ_le (by omega) (by omega)).mpr (by omega))) ?_
    exact E_ret rfl ⟨rfl, hh, hfr, fun c hc => hw c (by rw [← hce]; exact hc)⟩
  | succ j ih =>
    intro h k lv hj hh hfr hw L0 L1
    have hce : gn h 84 3 = gn h0 84 3 := fr_gn hfr (rg_no rfl _)
    refine E_il rfl L1 ?_
    refine E_al rfl L0 ?_
    refine E_gr rfl hh (q := 84) rfl ?_
    refine E_ci 5 rfl (by decide) ?_
    refine E_ial rfl hh rfl (by omega) (by decide) (show gi h 84 5 = nJ ((gn h0 84 5)) from by rw [fr_gi hfr (rg_no rfl _)]; exact gi_gn hh0 rfl (by decide)) ?_
    refine E_icF rfl (decide_eq_false (fun q => absurd ((nJ_le (by omega) (by omega)).mp q) (by omega))) ?_
    have hact : (gn h0 87 (3 * k) = 0 → 1 ≤ gn h0 87 (3 * k + 2)) ∧ (¬ gn h0 87 (3 * k) = 0 → gn h0 87 (3 * k + 1) < gn h0 84 3 ∧ gn h0 87 (3 * k + 2) < gn h0 84 3) := by have := hR.2.2 k (show k < gn h0 84 5 by omega); simp only [Nat.mul_zero, Nat.zero_add] at this; exact this
    have ha1 : gn h0 87 (3 * k + 1) ≤ 7 := gn_hi hh0 (bd_87b (by omega) (by omega)) (by decide)
    have ha2 : gn h0 87 (3 * k + 2) ≤ 8 := gn_hi hh0 (bd_87c (by omega) (by omega)) (by decide)
    have ha0 : gn h0 87 (3 * k) ≤ 1 := gn_hi hh0 (bd_87a (by omega) (by omega)) (by decide)
    refine E_al rfl L0 ?_
    refine E_gr rfl hh (q := 87) rfl ?_
    refine E_ci 3 rfl (by decide) ?_
    refine E_il rfl L1 ?_
    refine E_bin rfl (nJ_mul _ _) ?_
    refine E_ci 1 rfl (by decide) ?_
    refine E_bin rfl (nJ_add _ _) ?_
    refine E_ial rfl hh rfl (by omega) (by decide) (show gi h 87 (((3 * k) + 1)) = nJ ((gn h0 87 (3 * k + 1))) from by rw [fr_gi hfr (rg_no rfl _)]; exact gi_gn hh0 (bd_87b (by omega) (by omega)) (by decide)) ?_
    refine E_is rfl (fun lv1 L1_2 kp1 => ?_)
    have L1_0 := kp1 0 _ (by decide) rfl L0
    have L1_1 := kp1 1 _ (by decide) rfl L1
    refine E_al rfl L1_0 ?_
    refine E_gr rfl hh (q := 87) rfl ?_
    refine E_ci 3 rfl (by decide) ?_
    refine E_il rfl L1_1 ?_
    refine E_bin rfl (nJ_mul _ _) ?_
    refine E_ci 2 rfl (by decide) ?_
    refine E_bin rfl (nJ_add _ _) ?_
    refine E_ial rfl hh rfl (by omega) (by decide) (show gi h 87 (((3 * k) + 2)) = nJ ((gn h0 87 (3 * k + 2))) from by rw [fr_gi hfr (rg_no rfl _)]; exact gi_gn hh0 (bd_87c (by omega) (by omega)) (by decide)) ?_
    refine E_is rfl (fun lv2 L2_3 kp2 => ?_)
    have L2_0 := kp2 0 _ (by decide) rfl L1_0
    have L2_1 := kp2 1 _ (by decide) rfl L1_1
    have L2_2 := kp2 2 _ (by decide) rfl L1_2
    refine E_al rfl L2_0 ?_
    refine E_gr rfl hh (q := 87) rfl ?_
    refine E_ci 3 rfl (by decide) ?_
    refine E_il rfl L2_1 ?_
    refine E_bin rfl (nJ_mul _ _) ?_
    refine E_ial rfl hh rfl (by omega) (by decide) (show gi h 87 ((3 * k)) = nJ ((gn h0 87 (3 * k))) from by rw [fr_gi hfr (rg_no rfl _)]; exact gi_gn hh0 (bd_87a (by omega) (by omega)) (by decide)) ?_
    by_cases hb3 : ¬ (gn h0 87 (3 * k)) = 0
    · refine E_ifT rfl (decide_eq_true (fun q => hb3 ((nJ_eq0 (by omega)).mp q))) ?_
      refine E_al rfl L2_0 ?_
      refine E_il rfl L2_2 ?_
      refine E_il rfl L2_3 ?_
      have hA := hact.2 (by omega)
      refine E_call rfl (sp_trade hh (by omega) (by omega)) (chk77 hh rfl rfl (by show 0 ≤ 8; decide)) (fun hq rq => ?_)
      rintro ⟨e9, hhq, he9⟩
      rw [e9]
      show Ends _ _ (113, lv2, [], hq, 0, 0) _
      refine E_inc rfl L2_1 (nJ_inc _) (fun lv4 L4_1 kp4 => ?_)
      have L4_0 := kp4 0 _ (by decide) rfl L2_0
      have L4_2 := kp4 2 _ (by decide) rfl L2_2
      have L4_3 := kp4 3 _ (by decide) rfl L2_3
      refine E_goto rfl ?_
      refine ih lv4 (by omega) hhq (he9 ▸ fr_ptr (l := 0) (u := 7) rfl (by omega) (by omega) (fr_ptr (l := 0) (u := 7) rfl (by omega) (by omega) hfr)) (fun c hc => ?_) L4_0 L4_1
      have hx8 : gn h 89 (gn h0 87 (3 * k + 2)) ≤ 8 := gn_hi hh (bd_u rfl (by omega)) (by decide)
      have hy8 : gn h 89 (gn h0 87 (3 * k + 1)) ≤ 8 := gn_hi hh (bd_u rfl (by omega)) (by decide)
      have hh5 : HH (pt h 89 (gn h0 87 (3 * k + 1)) (nJ (gn h 89 (gn h0 87 (3 * k + 2))))) := HH_ptn hh (bd_u rfl (by omega)) (by omega) (by omega) (by omega)
      rw [he9]
      by_cases e : c = gn h0 87 (3 * k + 2)
      · rw [e, gn_ptn hh5 (bd_u rfl (by omega)) (by omega) (by omega) (by omega)]; exact hw _ (by omega)
      · rw [gn_ne (fun _ => e)]
        by_cases e2 : c = gn h0 87 (3 * k + 1)
        · rw [e2, gn_ptn hh (bd_u rfl (by omega)) (by omega) (by omega) (by omega)]; exact hw _ (by omega)
        · rw [gn_ne (fun _ => e2)]; exact hw c hc
    · refine E_ifF rfl (decide_eq_false (fun q => hb3 (fun z => q ((nJ_eq0 (by omega)).mpr z)))) ?_
      refine E_al rfl L2_0 ?_
      refine E_gr rfl hh (q := 89) rfl ?_
      refine E_il rfl L2_2 ?_
      refine E_il rfl L2_3 ?_
      refine E_ias rfl hh rfl (by omega) (by decide) ?_
      have hh5 : HH (pt h 89 ((gn h0 87 (3 * k + 1))) (nJ ((gn h0 87 (3 * k + 2))))) := HH_ptn hh (bd_u rfl (by omega)) (by omega) (by omega) (by omega)
      refine E_goto rfl ?_
      refine E_inc rfl L2_1 (nJ_inc _) (fun lv6 L6_1 kp6 => ?_)
      have L6_0 := kp6 0 _ (by decide) rfl L2_0
      have L6_2 := kp6 2 _ (by decide) rfl L2_2
      have L6_3 := kp6 3 _ (by decide) rfl L2_3
      refine E_goto rfl ?_
      refine ih lv6 (by omega) hh5 (fr_ptr (l := 0) (u := 7) rfl (by omega) (by omega) hfr) (fun c hc => ?_) L6_0 L6_1
      by_cases e : c = gn h0 87 (3 * k + 1)
      · rw [e, gn_ptn hh (bd_u rfl (by omega)) (by omega) (by omega) (by omega)]; exact hact.1 (by omega)
      · rw [gn_ne (fun _ => e)]; exact hw c hc
theorem ly_one {h0 : pm_H} {d : Nat} (hh0 : HH h0) (hR : RI 0 h0) (j : Nat) : ∀ {h : pm_H} {c : Nat} (lv : List (Nat × Value)), c + j = gn h0 84 3 → HH h → fr_g YM h0 h → (∀ c1, c1 < c → 1 ≤ gn h 89 c1) → pm_get lv 0 = some (.ref 77) → pm_get lv 1 = some (.int (nJ c)) → Ends (pm_at tX9_lays) (pm_Rt pm_P (d + 1)) (24, lv, [], h, 0, 0) (fun h' r => r = none ∧ HH h' ∧ fr_g YM h0 h' ∧ ∀ c, c < gn h' 84 3 → 1 ≤ gn h' 89 c) := by
  have hC : gn h0 84 3 ≤ 8 := gn_hi hh0 rfl (by decide)
  induction j with
  | zero =>
    intro h c lv hj hh hfr hw L0 L1
    have hce : gn h 84 3 = gn h0 84 3 := fr_gn hfr (rg_no rfl _)
    refine E_il rfl L1 ?_
    refine E_al rfl L0 ?_
    refine E_call rfl (sp_cars hh) (chk77 hh rfl rfl (by show 1 ≤ 8; decide)) (fun h1 r1 => ?_)
    rintro ⟨e1, f1, c1⟩
    rw [e1, f1]
    show Ends _ _ (29, lv, [.int (nJ (gn h 84 3)), .int (nJ c)], h, 0, 0) _
    refine E_icT rfl (decide_eq_true ((nJ_le (by omega) (by omega)).mpr (by omega))) ?_
    refine E_ci 0 rfl (by decide) ?_
    refine E_is rfl (fun lv2 L2_1 kp2 => ?_)
    have L2_0 := kp2 0 _ (by decide) rfl L0
    exact ly_two hh0 hR (gn h0 84 5) (k := 0) lv2 (by omega) hh hfr (fun c1 hc1 => hw c1 (by omega)) L2_0 L2_1
  | succ j ih =>
    intro h c lv hj hh hfr hw L0 L1
    have hce : gn h 84 3 = gn h0 84 3 := fr_gn hfr (rg_no rfl _)
    refine E_il rfl L1 ?_
    refine E_al rfl L0 ?_
    refine E_call rfl (sp_cars hh) (chk77 hh rfl rfl (by show 1 ≤ 8; decide)) (fun h1 r1 => ?_)
    rintro ⟨e1, f1, c1⟩
    rw [e1, f1]
    show Ends _ _ (29, lv, [.int (nJ (gn h 84 3)), .int (nJ c)], h, 0, 0) _
    refine E_icF rfl (decide_eq_false (fun q => absurd ((nJ_le (by omega) (by omega)).mp q) (by omega))) ?_
    have ht8 : gn h0 85 (2 * c) ≤ 8 := gn_hi hh0 (bd_85 (by omega) (by omega)) (by decide)
    refine E_al rfl L0 ?_
    refine E_gr rfl hh (q := 89) rfl ?_
    refine E_il rfl L1 ?_
    refine E_al rfl L0 ?_
    refine E_gr rfl hh (q := 85) rfl ?_
    refine E_ci 2 rfl (by decide) ?_
    refine E_il rfl L1 ?_
    refine E_bin rfl (nJ_mul _ _) ?_
    refine E_ial rfl hh rfl (by omega) (by decide) (show gi h 85 ((2 * c)) = nJ ((gn h0 85 (2 * c))) from by rw [fr_gi hfr (rg_no rfl _)]; exact gi_gn hh0 (bd_85 (by omega) (by omega)) (by decide)) ?_
    refine E_ias rfl hh rfl (by omega) (by decide) ?_
    have hh2 : HH (pt h 89 c (nJ ((gn h0 85 (2 * c))))) := HH_ptn hh (bd_u rfl (by omega)) (by omega) (by omega) (by omega)
    refine E_inc rfl L1 (nJ_inc _) (fun lv3 L3_1 kp3 => ?_)
    have L3_0 := kp3 0 _ (by decide) rfl L0
    refine E_goto rfl ?_
    refine ih lv3 (by omega) hh2 (fr_ptr (l := 0) (u := 7) rfl (by omega) (by omega) hfr) (fun c1 hc1 => ?_) L3_0 L3_1
    by_cases e : c1 = c
    · rw [e, gn_ptn hh (bd_u rfl (by omega)) (by omega) (by omega) (by omega)]; have := hR.2.1 c (show c < gn h0 84 3 by omega); simp only [Nat.mul_zero, Nat.zero_add] at this; exact this
    · rw [gn_ne (fun _ => e)]; exact hw c1 (by omega)
theorem sp_lays {h0 : pm_H} {d : Nat} (hh0 : HH h0) (hR : RI 0 h0) : Sp (d + 2) 293 h0 [.ref 77] (fun h' r => r = none ∧ HH h' ∧ fr_g YM h0 h' ∧ ∀ c, c < gn h' 84 3 → 1 ≤ gn h' 89 c) := by
  refine Sp_of aiX9_lays rfl rfl rfl ?_
  refine E_al rfl (show pm_get (lv_args 0 [.ref 77]) 0 = _ from rfl) ?_
  refine E_al rfl (show pm_get (lv_args 0 [.ref 77]) 0 = _ from rfl) ?_
  refine E_gr rfl hh0 (q := 84) rfl ?_
  refine E_ci 1 rfl (by decide) ?_
  have b1 : gn h0 84 1 ≤ 3 := gn_hi hh0 rfl (by decide)
  refine E_ial rfl hh0 rfl (by omega) (by decide) (gi_gn hh0 rfl (by decide)) ?_
  refine E_pf rfl hh0 rfl ?_
  have hh2 : HH (pt h0 77 22 (nJ ((gn h0 84 1)))) := HH_ptn hh0 rfl (by omega) (by omega) (by omega)
  have fr2 : fr_g YM h0 (pt h0 77 22 (nJ ((gn h0 84 1)))) := fr_ptr (l := 22) (u := 22) rfl (by omega) (by omega) (fr_rf YM h0)
  refine E_al rfl (show pm_get (lv_args 0 [.ref 77]) 0 = _ from rfl) ?_
  refine E_ci 1 rfl (by decide) ?_
  refine E_al rfl (show pm_get (lv_args 0 [.ref 77]) 0 = _ from rfl) ?_
  refine E_call rfl (sp_cars hh2) (chk77 hh2 rfl rfl (by show 2 ≤ 8; decide)) (fun h3 r3 => ?_)
  rintro ⟨e3, f3, c3⟩
  rw [e3, f3]
  show Ends _ _ (16, (lv_args 0 [.ref 77]), [.int (nJ (gn (pt h0 77 22 (nJ ((gn h0 84 1)))) 84 3)), .int (nJ 1), .ref 77], (pt h0 77 22 (nJ ((gn h0 84 1)))), 0, 0) _
  refine E_bin rfl rfl ?_
  refine E_ci 1 rfl (by decide) ?_
  refine E_bin rfl rfl ?_
  refine E_pf rfl hh2 rfl ?_
  have hh4 : HH (pt (pt h0 77 22 (nJ ((gn h0 84 1)))) 77 23 ((nJ 1 <<< (nJ ((gn (pt h0 77 22 (nJ ((gn h0 84 1)))) 84 3)) &&& 31)) - nJ 1)) := HH_pt hh2 rfl (ai_lo _) (ai_hi _)
  have fr4 : fr_g YM h0 (pt (pt h0 77 22 (nJ ((gn h0 84 1)))) 77 23 ((nJ 1 <<< (nJ ((gn (pt h0 77 22 (nJ ((gn h0 84 1)))) 84 3)) &&& 31)) - nJ 1)) := fr_ptr (l := 23) (u := 23) rfl (by omega) (by omega) fr2
  refine E_ci 0 rfl (by decide) ?_
  refine E_is rfl (fun lv5 L5_1 kp5 => ?_)
  have L5_0 := kp5 0 _ (by decide) rfl (show pm_get (lv_args 0 [.ref 77]) 0 = _ from rfl)
  exact ly_one hh0 hR (gn h0 84 3) (c := 0) lv5 (by omega) hh4 fr4 (fun c1 hc1 => absurd hc1 (Nat.not_lt_zero _)) L5_0 L5_1
end
