section
noncomputable def C9 (h : pm_H) (i : Nat) : Nat := gn h 87 (3 * i + 1)
noncomputable def G9 (h : pm_H) (i : Nat) : Nat := gn h 87 (3 * i + 2)
noncomputable def Z9 (h : pm_H) (i : Nat) : Nat := gn h 87 (3 * i)
noncomputable def t9 (h : pm_H) (c : Nat) : Nat := gn h 85 (2 * c)
noncomputable def W9 (h : pm_H) : Nat → Nat := nwF (C9 h) (G9 h) (Z9 h) (t9 h) (gn h 84 5)
noncomputable def V9 (h : pm_H) : Prop := ∀ i, i < gn h 84 5 → vAct (gn h 84 3) (gn h 84 0) (C9 h) (G9 h) (Z9 h) i
theorem ly_twoX {h0 : pm_H} {d : Nat} {a b : Int32} (hh0 : HH h0) (hV : V9 h0) (j : Nat) : ∀ {h : pm_H} {k : Nat} (lv : List (Nat × Value)), k + j = gn h0 84 5 → HH h → fr_g YM h0 h → gi h 77 22 = a → gi h 77 23 = b → (∀ c, c < gn h0 84 3 → gn h 89 c = nwF (C9 h0) (G9 h0) (Z9 h0) (t9 h0) k c) → pm_get lv 0 = some (.ref 77) → pm_get lv 1 = some (.int (nJ k)) → Ends (pm_at tX9_lays) (pm_Rt pm_P (d + 1)) (54, lv, [], h, 0, 0) (fun h' r => r = none ∧ HH h' ∧ fr_g YM h0 h' ∧ gi h' 77 22 = a ∧ gi h' 77 23 = b ∧ ∀ c, c < gn h0 84 3 → gn h' 89 c = W9 h0 c) := by
  have hK : gn h0 84 5 ≤ 20 := gn_hi hh0 rfl (by decide)
  have hC : gn h0 84 3 ≤ 8 := gn_hi hh0 rfl (by decide)
  induction j with
  | zero =>
    intro h k lv hj hh hfr ga gb hw L0 L1
    have hce : gn h 84 3 = gn h0 84 3 := fr_gn hfr (rg_no rfl _)
    refine E_il rfl L1 ?_
    refine E_al rfl L0 ?_
    refine E_gr rfl hh (q := 84) rfl ?_
    refine E_ci 5 rfl (by decide) ?_
    refine E_ial rfl hh rfl (by omega) (by decide) (show gi h 84 5 = nJ ((gn h0 84 5)) from by rw [fr_gi hfr (rg_no rfl _)]; exact gi_gn hh0 rfl (by decide)) ?_
    refine E_icT rfl (decide_eq_true ((nJ_le (by omega) (by omega)).mpr (by omega))) ?_
    have ek : k = gn h0 84 5 := by omega
    exact E_ret rfl ⟨rfl, hh, hfr, ga, gb, fun c hc => by rw [hw c hc, ek]; rfl⟩
  | succ j ih =>
    intro h k lv hj hh hfr ga gb hw L0 L1
    have hce : gn h 84 3 = gn h0 84 3 := fr_gn hfr (rg_no rfl _)
    refine E_il rfl L1 ?_
    refine E_al rfl L0 ?_
    refine E_gr rfl hh (q := 84) rfl ?_
    refine E_ci 5 rfl (by decide) ?_
    refine E_ial rfl hh rfl (by omega) (by decide) (show gi h 84 5 = nJ ((gn h0 84 5)) from by rw [fr_gi hfr (rg_no rfl _)]; exact gi_gn hh0 rfl (by decide)) ?_
    refine E_icF rfl (decide_eq_false (fun q => absurd ((nJ_le (by omega) (by omega)).mp q) (by omega))) ?_
    have v := hV k (show k < gn h0 84 5 by omega)
    have hact : gn h0 87 (3 * k + 1) < gn h0 84 3 ∧ ((gn h0 87 (3 * k) = 0 ∧ 1 ≤ gn h0 87 (3 * k + 2) ∧ gn h0 87 (3 * k + 2) ≤ gn h0 84 0) ∨ (gn h0 87 (3 * k) = 1 ∧ gn h0 87 (3 * k + 2) < gn h0 84 3)) := v
    have ha1 : gn h0 87 (3 * k + 1) ≤ 7 := gn_hi hh0 (bd_87b (by omega) (by omega)) (by decide)
    have ha2 : gn h0 87 (3 * k + 2) ≤ 8 := gn_hi hh0 (bd_87c (by omega) (by omega)) (by decide)
    have ha0 : gn h0 87 (3 * k) ≤ 1 := gn_hi hh0 (bd_87a (by omega) (by omega)) (by decide)
    refine E_al rfl L0 ?_
    refine E_gr rfl hh (q := 87) rfl ?_
    refine E_ci 3 rfl (by decide) ?_
    refine E_il rfl L1 ?_
    refine E_bin rfl (nJ_mul _ _) ?_
    refine E_ci 1 rfl (by decide) ?_
    refine E_bin rfl (nJ_add _ _) ?_
    refine E_ial rfl hh rfl (by omega) (by decide) (show gi h 87 (((3 * k) + 1)) = nJ ((gn h0 87 (3 * k + 1))) from by rw [fr_gi hfr (rg_no rfl _)]; exact gi_gn hh0 (bd_87b (by omega) (by omega)) (by decide)) ?_
    refine E_is rfl (fun lv1 L1_2 kp1 => ?_)
    have L1_0 := kp1 0 _ (by decide) rfl L0
    have L1_1 := kp1 1 _ (by decide) rfl L1
    refine E_al rfl L1_0 ?_
    refine E_gr rfl hh (q := 87) rfl ?_
    refine E_ci 3 rfl (by decide) ?_
    refine E_il rfl L1_1 ?_
    refine E_bin rfl (nJ_mul _ _) ?_
    refine E_ci 2 rfl (by decide) ?_
    refine E_bin rfl (nJ_add _ _) ?_
    refine E_ial rfl hh rfl (by omega) (by decide) (show gi h 87 (((3 * k) + 2)) = nJ ((gn h0 87 (3 * k + 2))) from by rw [fr_gi hfr (rg_no rfl _)]; exact gi_gn hh0 (bd_87c (by omega) (by omega)) (by decide)) ?_
    refine E_is rfl (fun lv2 L2_3 kp2 => ?_)
    have L2_0 := kp2 0 _ (by decide) rfl L1_0
    have L2_1 := kp2 1 _ (by decide) rfl L1_1
    have L2_2 := kp2 2 _ (by decide) rfl L1_2
    refine E_al rfl L2_0 ?_
    refine E_gr rfl hh (q := 87) rfl ?_
    refine E_ci 3 rfl (by decide) ?_
    refine E_il rfl L2_1 ?_
    refine E_bin rfl (nJ_mul _ _) ?_
    refine E_ial rfl hh rfl (by omega) (by decide) (show gi h 87 ((3 * k)) = nJ ((gn h0 87 (3 * k))) from by rw [fr_gi hfr (rg_no rfl _)]; exact gi_gn hh0 (bd_87a (by omega) (by omega)) (by decide)) ?_
    by_cases hb3 : ¬ (gn h0 87 (3 * k)) = 0
    · refine E_ifT rfl (decide_eq_true (fun q => hb3 ((nJ_eq0 (by omega)).mp q))) ?_
      refine E_al rfl L2_0 ?_
      refine E_il rfl L2_2 ?_
      refine E_il rfl L2_3 ?_
      have hA : gn h0 87 (3 * k + 1) < gn h0 84 3 ∧ gn h0 87 (3 * k + 2) < gn h0 84 3 := ⟨hact.1, by omega⟩
      refine E_call rfl (sp_trade hh (by omega) (by omega)) (chk77 hh rfl rfl (by show 0 ≤ 8; decide)) (fun hq rq => ?_)
      rintro ⟨e9, hhq, he9⟩
      rw [e9]
      show Ends _ _ (113, lv2, [], hq, 0, 0) _
      refine E_inc rfl L2_1 (nJ_inc _) (fun lv4 L4_1 kp4 => ?_)
      have L4_0 := kp4 0 _ (by decide) rfl L2_0
      have L4_2 := kp4 2 _ (by decide) rfl L2_2
      have L4_3 := kp4 3 _ (by decide) rfl L2_3
      refine E_goto rfl ?_
      refine ih lv4 (by omega) hhq (he9 ▸ fr_ptr (l := 0) (u := 7) rfl (by omega) (by omega) (fr_ptr (l := 0) (u := 7) rfl (by omega) (by omega) hfr)) (by rw [he9, gi_ne (by omega), gi_ne (by omega)]; exact ga) (by rw [he9, gi_ne (by omega), gi_ne (by omega)]; exact gb) (fun c hc => ?_) L4_0 L4_1
      have hx8 : gn h 89 (gn h0 87 (3 * k + 2)) ≤ 8 := gn_hi hh (bd_u rfl (by omega)) (by decide)
      have hy8 : gn h 89 (gn h0 87 (3 * k + 1)) ≤ 8 := gn_hi hh (bd_u rfl (by omega)) (by decide)
      have hh5 : HH (pt h 89 (gn h0 87 (3 * k + 1)) (nJ (gn h 89 (gn h0 87 (3 * k + 2))))) := HH_ptn hh (bd_u rfl (by omega)) (by omega) (by omega) (by omega)
      have ez : ¬ Z9 h0 k = 0 := hb3
      show gn hq 89 c = dAct (C9 h0) (G9 h0) (Z9 h0) k (nwF (C9 h0) (G9 h0) (Z9 h0) (t9 h0) k) c
      rw [he9, gn_fup hh5 (bd_u rfl (by omega)) (by omega) (by omega) (by omega), gn_fup hh (bd_u rfl (by omega)) (by omega) (by omega) (by omega), ← dAct_cg (f' := gn h 89) rfl rfl rfl v hw c hc]
      unfold dAct
      rw [if_neg ez]
      rfl
    · refine E_ifF rfl (decide_eq_false (fun q => hb3 (fun z => q ((nJ_eq0 (by omega)).mpr z)))) ?_
      refine E_al rfl L2_0 ?_
      refine E_gr rfl hh (q := 89) rfl ?_
      refine E_il rfl L2_2 ?_
      refine E_il rfl L2_3 ?_
      refine E_ias rfl hh rfl (by omega) (by decide) ?_
      have hh5 : HH (pt h 89 ((gn h0 87 (3 * k + 1))) (nJ ((gn h0 87 (3 * k + 2))))) := HH_ptn hh (bd_u rfl (by omega)) (by omega) (by omega) (by omega)
      refine E_goto rfl ?_
      refine E_inc rfl L2_1 (nJ_inc _) (fun lv6 L6_1 kp6 => ?_)
      have L6_0 := kp6 0 _ (by decide) rfl L2_0
      have L6_2 := kp6 2 _ (by decide) rfl L2_2
      have L6_3 := kp6 3 _ (by decide) rfl L2_3
      refine E_goto rfl ?_
      refine ih lv6 (by omega) hh5 (fr_ptr (l := 0) (u := 7) rfl (by omega) (by omega) hfr) (by rw [gi_ne (by omega)]; exact ga) (by rw [gi_ne (by omega)]; exact gb) (fun c hc => ?_) L6_0 L6_1
      have ez : Z9 h0 k = 0 := Classical.not_not.mp hb3
      show gn (pt h 89 ((gn h0 87 (3 * k + 1))) (nJ ((gn h0 87 (3 * k + 2))))) 89 c = dAct (C9 h0) (G9 h0) (Z9 h0) k (nwF (C9 h0) (G9 h0) (Z9 h0) (t9 h0) k) c
      rw [gn_fup hh (bd_u rfl (by omega)) (by omega) (by omega) (by omega), ← dAct_cg (f' := gn h 89) rfl rfl rfl v hw c hc]
      unfold dAct
      rw [if_pos ez]
      rfl
theorem ly_oneX {h0 : pm_H} {d : Nat} {a b : Int32} (hh0 : HH h0) (hV : V9 h0) (j : Nat) : ∀ {h : pm_H} {c : Nat} (lv : List (Nat × Value)), c + j = gn h0 84 3 → HH h → fr_g YM h0 h → gi h 77 22 = a → gi h 77 23 = b → (∀ c1, c1 < c → gn h 89 c1 = t9 h0 c1) → pm_get lv 0 = some (.ref 77) → pm_get lv 1 = some (.int (nJ c)) → Ends (pm_at tX9_lays) (pm_Rt pm_P (d + 1)) (24, lv, [], h, 0, 0) (fun h' r => r = none ∧ HH h' ∧ fr_g YM h0 h' ∧ gi h' 77 22 = a ∧ gi h' 77 23 = b ∧ ∀ c, c < gn h0 84 3 → gn h' 89 c = W9 h0 c) := by
  have hC : gn h0 84 3 ≤ 8 := gn_hi hh0 rfl (by decide)
  induction j with
  | zero =>
    intro h c lv hj hh hfr ga gb hw L0 L1
    have hce : gn h 84 3 = gn h0 84 3 := fr_gn hfr (rg_no rfl _)
    refine E_il rfl L1 ?_
    refine E_al rfl L0 ?_
    refine E_call rfl (sp_cars hh) (chk77 hh rfl rfl (by show 1 ≤ 8; decide)) (fun h1 r1 => ?_)
    rintro ⟨e1, f1, c1⟩
    rw [e1, f1]
    show Ends _ _ (29, lv, [.int (nJ (gn h 84 3)), .int (nJ c)], h, 0, 0) _
    refine E_icT rfl (decide_eq_true ((nJ_le (by omega) (by omega)).mpr (by omega))) ?_
    refine E_ci 0 rfl (by decide) ?_
    refine E_is rfl (fun lv2 L2_1 kp2 => ?_)
    have L2_0 := kp2 0 _ (by decide) rfl L0
    exact ly_twoX hh0 hV (gn h0 84 5) (k := 0) lv2 (by omega) hh hfr ga gb (fun c1 hc1 => hw c1 (by omega)) L2_0 L2_1
  | succ j ih =>
    intro h c lv hj hh hfr ga gb hw L0 L1
    have hce : gn h 84 3 = gn h0 84 3 := fr_gn hfr (rg_no rfl _)
    refine E_il rfl L1 ?_
    refine E_al rfl L0 ?_
    refine E_call rfl (sp_cars hh) (chk77 hh rfl rfl (by show 1 ≤ 8; decide)) (fun h1 r1 => ?_)
    rintro ⟨e1, f1, c1⟩
    rw [e1, f1]
    show Ends _ _ (29, lv, [.int (nJ (gn h 84 3)), .int (nJ c)], h, 0, 0) _
    refine E_icF rfl (decide_eq_false (fun q => absurd ((nJ_le (by omega) (by omega)).mp q) (by omega))) ?_
    have ht8 : gn h0 85 (2 * c) ≤ 8 := gn_hi hh0 (bd_85 (by omega) (by omega)) (by decide)
    refine E_al rfl L0 ?_
    refine E_gr rfl hh (q := 89) rfl ?_
    refine E_il rfl L1 ?_
    refine E_al rfl L0 ?_
    refine E_gr rfl hh (q := 85) rfl ?_
    refine E_ci 2 rfl (by decide) ?_
    refine E_il rfl L1 ?_
    refine E_bin rfl (nJ_mul _ _) ?_
    refine E_ial rfl hh rfl (by omega) (by decide) (show gi h 85 ((2 * c)) = nJ ((gn h0 85 (2 * c))) from by rw [fr_gi hfr (rg_no rfl _)]; exact gi_gn hh0 (bd_85 (by omega) (by omega)) (by decide)) ?_
    refine E_ias rfl hh rfl (by omega) (by decide) ?_
    have hh2 : HH (pt h 89 c (nJ ((gn h0 85 (2 * c))))) := HH_ptn hh (bd_u rfl (by omega)) (by omega) (by omega) (by omega)
    refine E_inc rfl L1 (nJ_inc _) (fun lv3 L3_1 kp3 => ?_)
    have L3_0 := kp3 0 _ (by decide) rfl L0
    refine E_goto rfl ?_
    refine ih lv3 (by omega) hh2 (fr_ptr (l := 0) (u := 7) rfl (by omega) (by omega) hfr) (by rw [gi_ne (by omega)]; exact ga) (by rw [gi_ne (by omega)]; exact gb) (fun c1 hc1 => ?_) L3_0 L3_1
    by_cases e : c1 = c
    · rw [e, gn_ptn hh (bd_u rfl (by omega)) (by omega) (by omega) (by omega)]; rfl
    · rw [gn_ne (fun _ => e)]; exact hw c1 (by omega)
end
