section
/-! the class takes a street over, exactly (written by gen_t52.py) -/
theorem tk1_15_4 {h0 : pm_H} {d : Nat} {Q : pm_H → Option Value → Prop} (hh0 : HH h0) (K : ∀ (h : pm_H) (lv : List (Nat × Value)), HH h → fr_g [(16, 0, 7), (17, 0, 7), (18, 0, 7), (19, 0, 7), (20, 0, 7)] h0 h → (∀ k, k < 8 → gi h 16 k = gi h0 5 k ∧ gi h 17 k = gi h0 6 k ∧ gi h 18 k = gi h0 7 k ∧ gi h 19 k = gi h0 8 k ∧ gi h 20 k = gi h0 9 k) → pm_get lv 0 = some (.ref 15) → pm_get lv 1 = some (.ref 4) → Ends (pm_at tX5_take) (pm_Rt pm_P d) (130, lv, [], h, 0, 0) Q) (j : Nat) : ∀ {h : pm_H} {i : Nat} (lv : List (Nat × Value)), i + j = 8 → HH h → fr_g [(16, 0, 7), (17, 0, 7), (18, 0, 7), (19, 0, 7), (20, 0, 7)] h0 h → (∀ k, k < i → gi h 16 k = gi h0 5 k ∧ gi h 17 k = gi h0 6 k ∧ gi h 18 k = gi h0 7 k ∧ gi h 19 k = gi h0 8 k ∧ gi h 20 k = gi h0 9 k) → pm_get lv 0 = some (.ref 15) → pm_get lv 1 = some (.ref 4) → pm_get lv 2 = some (.int (nJ i)) → Ends (pm_at tX5_take) (pm_Rt pm_P d) (58, lv, [], h, 0, 0) Q := by
  induction j with
  | zero =>
    intro h i lv hj hh hf hc L0 L1 L2
    refine E_il rfl L2 ?_
    refine E_ci 8 rfl (by decide) ?_
    refine E_icT rfl (decide_eq_true ((nJ_le (by omega) (by omega)).mpr (by omega))) ?_
    exact K h lv hh hf (fun k hk => hc k (by omega)) L0 L1
  | succ j ih =>
    intro h i lv hj hh hf hc L0 L1 L2
    refine E_il rfl L2 ?_
    refine E_ci 8 rfl (by decide) ?_
    refine E_icF rfl (decide_eq_false (fun q => absurd ((nJ_le (by omega) (by omega)).mp q) (by omega))) ?_
    refine E_al rfl L0 ?_
    refine E_ogr (q := 16) rfl hh rfl rfl ?_
    refine E_il rfl L2 ?_
    refine E_al rfl L1 ?_
    refine E_ogr (q := 5) rfl hh rfl rfl ?_
    refine E_il rfl L2 ?_
    refine E_ial (v := gi h0 5 i) rfl hh rfl (by omega) (by decide) (by rw [fr_gi hf (rg_no rfl _)]) ?_
    have b1 := (ld_gi hh0 (a := 5) (k := i) (q := (0, 8)) (bd_u rfl (by omega))).2
    refine E_ias rfl hh rfl (by omega) (by decide) ?_
    have k1 : HH (pt h 16 i (gi h0 5 i)) := HH_pt (q := (0, 8)) hh (bd_u rfl (by omega)) b1.1 b1.2
    refine E_al rfl L0 ?_
    refine E_ogr (q := 17) rfl k1 rfl rfl ?_
    refine E_il rfl L2 ?_
    refine E_al rfl L1 ?_
    refine E_ogr (q := 6) rfl k1 rfl rfl ?_
    refine E_il rfl L2 ?_
    refine E_ial (v := gi h0 6 i) rfl k1 rfl (by omega) (by decide) (by rw [gi_ne (by omega), fr_gi hf (rg_no rfl _)]) ?_
    have b2 := (ld_gi hh0 (a := 6) (k := i) (q := (0, 8)) (bd_u rfl (by omega))).2
    refine E_ias rfl k1 rfl (by omega) (by decide) ?_
    have k2 : HH (pt (pt h 16 i (gi h0 5 i)) 17 i (gi h0 6 i)) := HH_pt (q := (0, 8)) k1 (bd_u rfl (by omega)) b2.1 b2.2
    refine E_al rfl L0 ?_
    refine E_ogr (q := 18) rfl k2 rfl rfl ?_
    refine E_il rfl L2 ?_
    refine E_al rfl L1 ?_
    refine E_ogr (q := 7) rfl k2 rfl rfl ?_
    refine E_il rfl L2 ?_
    refine E_ial (v := gi h0 7 i) rfl k2 rfl (by omega) (by decide) (by rw [gi_ne (by omega), gi_ne (by omega), fr_gi hf (rg_no rfl _)]) ?_
    have b3 := (ld_gi hh0 (a := 7) (k := i) (q := (0, 99)) (bd_u rfl (by omega))).2
    refine E_ias rfl k2 rfl (by omega) (by decide) ?_
    have k3 : HH (pt (pt (pt h 16 i (gi h0 5 i)) 17 i (gi h0 6 i)) 18 i (gi h0 7 i)) := HH_pt (q := (0, 99)) k2 (bd_u rfl (by omega)) b3.1 b3.2
    refine E_al rfl L0 ?_
    refine E_ogr (q := 19) rfl k3 rfl rfl ?_
    refine E_il rfl L2 ?_
    refine E_al rfl L1 ?_
    refine E_ogr (q := 8) rfl k3 rfl rfl ?_
    refine E_il rfl L2 ?_
    refine E_ial (v := gi h0 8 i) rfl k3 rfl (by omega) (by decide) (by rw [gi_ne (by omega), gi_ne (by omega), gi_ne (by omega), fr_gi hf (rg_no rfl _)]) ?_
    have b4 := (ld_gi hh0 (a := 8) (k := i) (q := (0, 9)) (bd_u rfl (by omega))).2
    refine E_ias rfl k3 rfl (by omega) (by decide) ?_
    have k4 : HH (pt (pt (pt (pt h 16 i (gi h0 5 i)) 17 i (gi h0 6 i)) 18 i (gi h0 7 i)) 19 i (gi h0 8 i)) := HH_pt (q := (0, 9)) k3 (bd_u rfl (by omega)) b4.1 b4.2
    refine E_al rfl L0 ?_
    refine E_ogr (q := 20) rfl k4 rfl rfl ?_
    refine E_il rfl L2 ?_
    refine E_al rfl L1 ?_
    refine E_ogr (q := 9) rfl k4 rfl rfl ?_
    refine E_il rfl L2 ?_
    refine E_ial (v := gi h0 9 i) rfl k4 rfl (by omega) (by decide) (by rw [gi_ne (by omega), gi_ne (by omega), gi_ne (by omega), gi_ne (by omega), fr_gi hf (rg_no rfl _)]) ?_
    have b5 := (ld_gi hh0 (a := 9) (k := i) (q := (0, 9)) (bd_u rfl (by omega))).2
    refine E_ias rfl k4 rfl (by omega) (by decide) ?_
    have k5 : HH (pt (pt (pt (pt (pt h 16 i (gi h0 5 i)) 17 i (gi h0 6 i)) 18 i (gi h0 7 i)) 19 i (gi h0 8 i)) 20 i (gi h0 9 i)) := HH_pt (q := (0, 9)) k4 (bd_u rfl (by omega)) b5.1 b5.2
    refine E_inc rfl L2 (nJ_inc _) (fun lv1 K2 kp => ?_)
    refine E_goto rfl ?_
    refine ih lv1 (i := i + 1) (by omega) k5 ?_ (fun k hk => ?_) (kp 0 _ (by decide) rfl L0) (kp 1 _ (by decide) rfl L1) K2
    · exact fr_ptr (l := 0) (u := 7) rfl (by omega) (by omega) (fr_ptr (l := 0) (u := 7) rfl (by omega) (by omega) (fr_ptr (l := 0) (u := 7) rfl (by omega) (by omega) (fr_ptr (l := 0) (u := 7) rfl (by omega) (by omega) (fr_ptr (l := 0) (u := 7) rfl (by omega) (by omega) (hf)))))
    · by_cases e : k = i
      · subst e
        refine ⟨?_, ?_, ?_, ?_, ?_⟩
        · rw [gi_ne (by omega), gi_ne (by omega), gi_ne (by omega), gi_ne (by omega)]; exact gi_pt (q := (0, 8)) hh (bd_u rfl (by omega)) b1.1 b1.2
        · rw [gi_ne (by omega), gi_ne (by omega), gi_ne (by omega)]; exact gi_pt (q := (0, 8)) k1 (bd_u rfl (by omega)) b2.1 b2.2
        · rw [gi_ne (by omega), gi_ne (by omega)]; exact gi_pt (q := (0, 99)) k2 (bd_u rfl (by omega)) b3.1 b3.2
        · rw [gi_ne (by omega)]; exact gi_pt (q := (0, 9)) k3 (bd_u rfl (by omega)) b4.1 b4.2
        · exact gi_pt (q := (0, 9)) k4 (bd_u rfl (by omega)) b5.1 b5.2
      · have q := hc k (by omega)
        refine ⟨?_, ?_, ?_, ?_, ?_⟩
        · rw [gi_ne (by omega), gi_ne (by omega), gi_ne (by omega), gi_ne (by omega), gi_ne (fun _ => e)]; exact q.1
        · rw [gi_ne (by omega), gi_ne (by omega), gi_ne (by omega), gi_ne (fun _ => e), gi_ne (by omega)]; exact q.2.1
        · rw [gi_ne (by omega), gi_ne (by omega), gi_ne (fun _ => e), gi_ne (by omega), gi_ne (by omega)]; exact q.2.2.1
        · rw [gi_ne (by omega), gi_ne (fun _ => e), gi_ne (by omega), gi_ne (by omega), gi_ne (by omega)]; exact q.2.2.2.1
        · rw [gi_ne (fun _ => e), gi_ne (by omega), gi_ne (by omega), gi_ne (by omega), gi_ne (by omega)]; exact q.2.2.2.2
theorem tk2_15_4 {h0 : pm_H} {d : Nat} {Q : pm_H → Option Value → Prop} (hh0 : HH h0) (K : ∀ (h : pm_H) (lv : List (Nat × Value)), HH h → fr_g [(21, 0, 19), (22, 0, 19), (23, 0, 19)] h0 h → (∀ k, k < 20 → gi h 21 k = gi h0 10 k ∧ gi h 22 k = gi h0 11 k ∧ gi h 23 k = gi h0 12 k) → pm_get lv 0 = some (.ref 15) → pm_get lv 1 = some (.ref 4) → Ends (pm_at tX5_take) (pm_Rt pm_P d) (180, lv, [], h, 0, 0) Q) (j : Nat) : ∀ {h : pm_H} {i : Nat} (lv : List (Nat × Value)), i + j = 20 → HH h → fr_g [(21, 0, 19), (22, 0, 19), (23, 0, 19)] h0 h → (∀ k, k < i → gi h 21 k = gi h0 10 k ∧ gi h 22 k = gi h0 11 k ∧ gi h 23 k = gi h0 12 k) → pm_get lv 0 = some (.ref 15) → pm_get lv 1 = some (.ref 4) → pm_get lv 2 = some (.int (nJ i)) → Ends (pm_at tX5_take) (pm_Rt pm_P d) (132, lv, [], h, 0, 0) Q := by
  induction j with
  | zero =>
    intro h i lv hj hh hf hc L0 L1 L2
    refine E_il rfl L2 ?_
    refine E_ci 20 rfl (by decide) ?_
    refine E_icT rfl (decide_eq_true ((nJ_le (by omega) (by omega)).mpr (by omega))) ?_
    exact K h lv hh hf (fun k hk => hc k (by omega)) L0 L1
  | succ j ih =>
    intro h i lv hj hh hf hc L0 L1 L2
    refine E_il rfl L2 ?_
    refine E_ci 20 rfl (by decide) ?_
    refine E_icF rfl (decide_eq_false (fun q => absurd ((nJ_le (by omega) (by omega)).mp q) (by omega))) ?_
    refine E_al rfl L0 ?_
    refine E_ogr (q := 21) rfl hh rfl rfl ?_
    refine E_il rfl L2 ?_
    refine E_al rfl L1 ?_
    refine E_ogr (q := 10) rfl hh rfl rfl ?_
    refine E_il rfl L2 ?_
    refine E_ial (v := gi h0 10 i) rfl hh rfl (by omega) (by decide) (by rw [fr_gi hf (rg_no rfl _)]) ?_
    have b6 := (ld_gi hh0 (a := 10) (k := i) (q := (0, 7)) (bd_u rfl (by omega))).2
    refine E_ias rfl hh rfl (by omega) (by decide) ?_
    have k6 : HH (pt h 21 i (gi h0 10 i)) := HH_pt (q := (0, 7)) hh (bd_u rfl (by omega)) b6.1 b6.2
    refine E_al rfl L0 ?_
    refine E_ogr (q := 22) rfl k6 rfl rfl ?_
    refine E_il rfl L2 ?_
    refine E_al rfl L1 ?_
    refine E_ogr (q := 11) rfl k6 rfl rfl ?_
    refine E_il rfl L2 ?_
    refine E_ial (v := gi h0 11 i) rfl k6 rfl (by omega) (by decide) (by rw [gi_ne (by omega), fr_gi hf (rg_no rfl _)]) ?_
    have b7 := (ld_gi hh0 (a := 11) (k := i) (q := (0, 8)) (bd_u rfl (by omega))).2
    refine E_ias rfl k6 rfl (by omega) (by decide) ?_
    have k7 : HH (pt (pt h 21 i (gi h0 10 i)) 22 i (gi h0 11 i)) := HH_pt (q := (0, 8)) k6 (bd_u rfl (by omega)) b7.1 b7.2
    refine E_al rfl L0 ?_
    refine E_ogr (q := 23) rfl k7 rfl rfl ?_
    refine E_il rfl L2 ?_
    refine E_al rfl L1 ?_
    refine E_ogr (q := 12) rfl k7 rfl rfl ?_
    refine E_il rfl L2 ?_
    refine E_zalB (v := gi h0 12 i) rfl k7 rfl (by omega) (by decide) (by rw [gi_ne (by omega), gi_ne (by omega), fr_gi hf (rg_no rfl _)]) ?_
    have b8 := (ld_gi hh0 (a := 12) (k := i) (q := (0, 1)) (bd_u rfl (by omega))).2
    refine E_zasB rfl k7 rfl (by omega) (by decide) (nar_z b8.1 b8.2) ?_
    have k8 : HH (pt (pt (pt h 21 i (gi h0 10 i)) 22 i (gi h0 11 i)) 23 i (gi h0 12 i)) := HH_pt (q := (0, 1)) k7 (bd_u rfl (by omega)) b8.1 b8.2
    refine E_inc rfl L2 (nJ_inc _) (fun lv1 K2 kp => ?_)
    refine E_goto rfl ?_
    refine ih lv1 (i := i + 1) (by omega) k8 ?_ (fun k hk => ?_) (kp 0 _ (by decide) rfl L0) (kp 1 _ (by decide) rfl L1) K2
    · exact fr_ptr (l := 0) (u := 19) rfl (by omega) (by omega) (fr_ptr (l := 0) (u := 19) rfl (by omega) (by omega) (fr_ptr (l := 0) (u := 19) rfl (by omega) (by omega) (hf)))
    · by_cases e : k = i
      · subst e
        refine ⟨?_, ?_, ?_⟩
        · rw [gi_ne (by omega), gi_ne (by omega)]; exact gi_pt (q := (0, 7)) hh (bd_u rfl (by omega)) b6.1 b6.2
        · rw [gi_ne (by omega)]; exact gi_pt (q := (0, 8)) k6 (bd_u rfl (by omega)) b7.1 b7.2
        · exact gi_pt (q := (0, 1)) k7 (bd_u rfl (by omega)) b8.1 b8.2
      · have q := hc k (by omega)
        refine ⟨?_, ?_, ?_⟩
        · rw [gi_ne (by omega), gi_ne (by omega), gi_ne (fun _ => e)]; exact q.1
        · rw [gi_ne (by omega), gi_ne (fun _ => e), gi_ne (by omega)]; exact q.2.1
        · rw [gi_ne (fun _ => e), gi_ne (by omega), gi_ne (by omega)]; exact q.2.2
end
