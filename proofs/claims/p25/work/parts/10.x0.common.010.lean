section
theorem rd_one {h0 : pm_H} {d N : Nat} (hh0 : HH h0) (hN2 : 2 ≤ N) (hN9 : N ≤ 9) (hc : ∀ j, j < N - 2 → gn h0 95 j < N) (k : Nat) : ∀ {h : pm_H} {i : Nat} (lv : List (Nat × Value)), i + k = N → HH h → fr_g DM h0 h → (∀ v, v < i → gi h 94 v = nJ 1) → pm_get lv 0 = some (.ref 77) → pm_get lv 1 = some (.int (nJ N)) → pm_get lv 2 = some (.int (nJ i)) → Ends (pm_at tX9_reads0) (pm_Rt pm_P (d + 2)) (2, lv, [], h, 0, 0) (DQ h0 N) := by
  induction k with
  | zero =>
    intro h i lv hj hh hfr hl L0 L1 L2
    refine E_il rfl L2 ?_
    refine E_il rfl L1 ?_
    refine E_icT rfl (decide_eq_true ((nJ_le (by omega) (by omega)).mpr (by omega))) ?_
    refine E_ci 0 rfl (by decide) ?_
    refine E_is rfl (fun lv1 L1_2 kp1 => ?_)
    have L1_0 := kp1 0 _ (by decide) rfl L0
    have L1_1 := kp1 1 _ (by decide) rfl L1
    exact rd_cnt hh0 hN2 hN9 hc (N - 2) (i := 0) (l := fun _ => 1) lv1 (by omega) hh hfr (fun v hv => hl v (by omega)) (fun v hv => rfl) (by rw [sm_one (fun v hv => rfl)]) L1_0 L1_1 L1_2
  | succ k ih =>
    intro h i lv hj hh hfr hl L0 L1 L2
    refine E_il rfl L2 ?_
    refine E_il rfl L1 ?_
    refine E_icF rfl (decide_eq_false (fun q => absurd ((nJ_le (by omega) (by omega)).mp q) (by omega))) ?_
    refine E_al rfl L0 ?_
    refine E_gr rfl hh (q := 94) rfl ?_
    refine E_il rfl L2 ?_
    refine E_ci 1 rfl (by decide) ?_
    refine E_ias rfl hh rfl (by omega) (by decide) ?_
    have hh1 : HH (pt h 94 i (nJ 1)) := HH_ptn hh (bd_u rfl (by omega)) (by omega) (by omega) (by omega)
    refine E_inc rfl L2 (nJ_inc _) (fun lv2 L2_2 kp2 => ?_)
    have L2_0 := kp2 0 _ (by decide) rfl L0
    have L2_1 := kp2 1 _ (by decide) rfl L1
    refine E_goto rfl ?_
    refine ih lv2 (by omega) hh1 (fr_ptr (l := 0) (u := 8) rfl (by omega) (by omega) hfr) (fun v hv => ?_) L2_0 L2_1 L2_2
    by_cases e : v = i
    · rw [e, gi_pt hh (bd_u rfl (by omega)) (ai_lo _) (ai_hi _)]
    · rw [gi_ne (fun _ => e)]; exact hl v (by omega)
theorem sp_reads0 {h0 : pm_H} {d N : Nat} (hh : HH h0) (hN2 : 2 ≤ N) (hN9 : N ≤ 9) (hc : ∀ j, j < N - 2 → gn h0 95 j < N) : Sp (d + 3) 330 h0 [.ref 77, .int (nJ N)] (DQ h0 N) := by
  refine Sp_of aiX9_reads0 rfl rfl rfl ?_
  refine E_ci 0 rfl (by decide) ?_
  refine E_is rfl (fun lv1 L1_2 kp1 => ?_)
  have L1_0 := kp1 0 _ (by decide) rfl (show pm_get (lv_args 0 [.ref 77, .int (nJ N)]) 0 = _ from rfl)
  have L1_1 := kp1 1 _ (by decide) rfl (show pm_get (lv_args 0 [.ref 77, .int (nJ N)]) 1 = _ from rfl)
  exact rd_one hh hN2 hN9 hc N (i := 0) lv1 (by omega) hh (fr_rf _ _) (fun v hv => absurd hv (Nat.not_lt_zero _)) L1_0 L1_1 L1_2
end

