/-! runs on a fresh object (written by gen_auto.py) -/
def hpb (c : Nat → pm_E) : pm_H := (hpm c).set 77 (.inr (9, [.int 0, .ref 78, .ref 79, .ref 80, .ref 81, .ref 82, .int 0, .int 0, .int 0, .int 0, .int 0, .long 0, .int 0, .int (-1), .int 0, .int (-1), .ref 83, .ref 84, .ref 85, .ref 86, .ref 87, .ref 88, .int 0, .int 0, .ref 89, .ref 90, .ref 91, .int 0, .ref 92, .ref 93, .ref 94, .ref 95, .ref 96, .ref 97, .ref 98, .int 0, .int 0, .ref 99, .ref 100, .int 0, .ref 101, .int 0, .int 0, .int 0, .ref 102]))
set_option maxRecDepth 20000 in
set_option maxHeartbeats 4000000 in
theorem rx_X5_clear_4 (d : Nat)  : pm_Rt pm_P (d + 1) 8 (hp0) [.ref 4] (hp0) none := by
  refine Rt_of aiX5_clear (Nat.le_of_ble_eq_true rfl) ?_
  refine Go_st rfl rfl ?_
  refine Go_st rfl rfl ?_
  refine Go_sm rfl rfl (sm_f rfl) ?_
  refine Go_st rfl rfl ?_
  refine Go_st rfl rfl ?_
  refine Go_sm rfl rfl (sm_f rfl) ?_
  refine Go_st rfl rfl ?_
  refine Go_st rfl rfl ?_
  refine Go_sm rfl rfl (sm_f rfl) ?_
  refine Go_st rfl rfl ?_
  refine Go_st rfl rfl ?_
  refine Go_sm rfl rfl (sm_f rfl) ?_
  refine Go_st rfl rfl ?_
  refine Go_st rfl rfl ?_
  refine Go_sm rfl rfl (sm_f rfl) ?_
  refine Go_st rfl rfl ?_
  refine Go_st rfl rfl ?_
  refine Go_sm rfl rfl (sm_f rfl) ?_
  refine Go_st rfl rfl ?_
  refine Go_st rfl rfl ?_
  refine Go_sm rfl rfl (sm_f rfl) ?_
  exact Go_ret rfl ⟨rfl, rfl⟩
set_option maxRecDepth 20000 in
set_option maxHeartbeats 4000000 in
theorem rx_X2_readToken_3 (d : Nat)  : pm_Rt pm_P (d + 1) 4 (hp0) [.ref 3] (hp0) none := by
  refine Rt_of aiX2_readToken (Nat.le_of_ble_eq_true rfl) ?_
  refine Go_st rfl rfl ?_
  refine Go_st rfl rfl ?_
  refine Go_st rfl rfl ?_
  refine Go_st rfl rfl ?_
  refine Go_st rfl rfl ?_
  refine Go_st rfl rfl ?_
  refine Go_ifT (by decide +kernel) ?_
  refine Go_st rfl rfl ?_
  refine Go_st rfl rfl ?_
  refine Go_st rfl rfl ?_
  refine Go_sm rfl rfl (sm_f rfl) ?_
  refine Go_st rfl rfl ?_
  refine Go_st rfl rfl ?_
  refine Go_st rfl rfl ?_
  refine Go_st rfl rfl ?_
  refine Go_st rfl rfl ?_
  refine Go_st rfl rfl ?_
  refine Go_ifF (by decide +kernel) ?_
  refine Go_st rfl rfl ?_
  refine Go_st rfl rfl ?_
  refine Go_sm rfl rfl (sm_f rfl) ?_
  refine Go_st rfl rfl ?_
  exact Go_ret rfl ⟨rfl, rfl⟩
set_option maxRecDepth 20000 in
set_option maxHeartbeats 4000000 in
theorem rx_X2_readTape_3 (d : Nat)  : pm_Rt pm_P (d + 2) 3 (hp0) [.ref 3] (hp0) none := by
  refine Rt_of aiX2_readTape (Nat.le_of_ble_eq_true rfl) ?_
  refine Go_st rfl rfl ?_
  refine Go_st rfl rfl ?_
  refine Go_call rfl (rx_X5_clear_4 d) (chkV rfl rfl rfl rfl rfl rfl) ?_
  refine Go_st rfl rfl ?_
  refine Go_st rfl rfl ?_
  refine Go_sm rfl rfl (sm_f rfl) ?_
  refine Go_st rfl rfl ?_
  refine Go_st rfl rfl ?_
  refine Go_sm rfl rfl (sm_f rfl) ?_
  refine Go_st rfl rfl ?_
  refine Go_st rfl rfl ?_
  refine Go_sm rfl rfl (sm_f rfl) ?_
  refine Go_st rfl rfl ?_
  refine Go_call rfl (rx_X2_readToken_3 d) (chkV rfl rfl rfl rfl rfl rfl) ?_
  refine Go_st rfl rfl ?_
  refine Go_st rfl rfl ?_
  refine Go_st rfl rfl ?_
  refine Go_st rfl rfl ?_
  refine Go_st rfl rfl ?_
  refine Go_ifF (by decide +kernel) ?_
  refine Go_st rfl rfl ?_
  refine Go_st rfl rfl ?_
  refine Go_st rfl rfl ?_
  refine Go_ifT (by decide +kernel) ?_
  exact Go_ret rfl ⟨rfl, rfl⟩
set_option maxRecDepth 20000 in
set_option maxHeartbeats 4000000 in
theorem rx_X5_take_15_4 (d : Nat)  : pm_Rt pm_P (d + 1) 10 (hp0) [.ref 15, .ref 4] (hp0) none := by
  refine Rt_of aiX5_take (Nat.le_of_ble_eq_true rfl) ?_
  refine Go_st rfl rfl ?_
  refine Go_st rfl rfl ?_
  refine Go_st rfl rfl ?_
  refine Go_sm rfl rfl (sm_f rfl) ?_
  refine Go_st rfl rfl ?_
  refine Go_st rfl rfl ?_
  refine Go_st rfl rfl ?_
  refine Go_sm rfl rfl (sm_f rfl) ?_
  refine Go_st rfl rfl ?_
  refine Go_st rfl rfl ?_
  refine Go_st rfl rfl ?_
  refine Go_sm rfl rfl (sm_f rfl) ?_
  refine Go_st rfl rfl ?_
  refine Go_st rfl rfl ?_
  refine Go_st rfl rfl ?_
  refine Go_sm rfl rfl (sm_f rfl) ?_
  refine Go_st rfl rfl ?_
  refine Go_st rfl rfl ?_
  refine Go_st rfl rfl ?_
  refine Go_sm rfl rfl (sm_f rfl) ?_
  refine Go_st rfl rfl ?_
  refine Go_st rfl rfl ?_
  refine Go_st rfl rfl ?_
  refine Go_sm rfl rfl (sm_f rfl) ?_
  refine Go_st rfl rfl ?_
  refine Go_st rfl rfl ?_
  refine Go_st rfl rfl ?_
  refine Go_sm rfl rfl (sm_f rfl) ?_
  refine Go_st rfl rfl ?_
  refine Go_st rfl rfl ?_
  refine Go_st rfl rfl ?_
  refine Go_st rfl rfl ?_
  refine Go_st rfl rfl ?_
  refine Go_ifF (by decide +kernel) ?_
  refine Go_st rfl rfl ?_
  refine Go_st rfl rfl ?_
  refine Go_st rfl rfl ?_
  refine Go_st rfl rfl ?_
  refine Go_st rfl rfl ?_
  refine Go_st rfl rfl ?_
  refine Go_iald (v := 0) rfl rfl (by decide +kernel) (by decide +kernel) ?_
  refine Go_iast0 rfl rfl (by decide +kernel) ?_
  refine Go_st rfl rfl ?_
  refine Go_st rfl rfl ?_
  refine Go_st rfl rfl ?_
  refine Go_st rfl rfl ?_
  refine Go_st rfl rfl ?_
  refine Go_st rfl rfl ?_
  refine Go_iald (v := 0) rfl rfl (by decide +kernel) (by decide +kernel) ?_
  refine Go_iast0 rfl rfl (by decide +kernel) ?_
  refine Go_st rfl rfl ?_
  refine Go_st rfl rfl ?_
  refine Go_st rfl rfl ?_
  refine Go_st rfl rfl ?_
  refine Go_st rfl rfl ?_
  refine Go_st rfl rfl ?_
  refine Go_iald (v := 0) rfl rfl (by decide +kernel) (by decide +kernel) ?_
  refine Go_iast0 rfl rfl (by decide +kernel) ?_
  refine Go_st rfl rfl ?_
  refine Go_st rfl rfl ?_
  refine Go_st rfl rfl ?_
  refine Go_st rfl rfl ?_
  refine Go_st rfl rfl ?_
  refine Go_st rfl rfl ?_
  refine Go_iald (v := 0) rfl rfl (by decide +kernel) (by decide +kernel) ?_
  refine Go_iast0 rfl rfl (by decide +kernel) ?_
  refine Go_st rfl rfl ?_
  refine Go_st rfl rfl ?_
  refine Go_st rfl rfl ?_
  refine Go_st rfl rfl ?_
  refine Go_st rfl rfl ?_
  refine Go_st rfl rfl ?_
  refine Go_iald (v := 0) rfl rfl (by decide +kernel) (by decide +kernel) ?_
  refine Go_iast0 rfl rfl (by decide +kernel) ?_
  refine Go_incL (v := 1) (lv' := [(2, .int 1), (0, .ref 15), (1, .ref 4)]) rfl rfl (by decide +kernel) rfl ?_
  refine Go_st rfl rfl ?_
  refine Go_st rfl rfl ?_
  refine Go_st rfl rfl ?_
  refine Go_st rfl rfl ?_
  refine Go_ifF (by decide +kernel) ?_
  refine Go_st rfl rfl ?_
  refine Go_st rfl rfl ?_
  refine Go_st rfl rfl ?_
  refine Go_st rfl rfl ?_
  refine Go_st rfl rfl ?_
  refine Go_st rfl rfl ?_
  refine Go_iald (v := 0) rfl rfl (by decide +kernel) (by decide +kernel) ?_
  refine Go_iast0 rfl rfl (by decide +kernel) ?_
  refine Go_st rfl rfl ?_
  refine Go_st rfl rfl ?_
  refine Go_st rfl rfl ?_
  refine Go_st rfl rfl ?_
  refine Go_st rfl rfl ?_
  refine Go_st rfl rfl ?_
  refine Go_iald (v := 0) rfl rfl (by decide +kernel) (by decide +kernel) ?_
  refine Go_iast0 rfl rfl (by decide +kernel) ?_
  refine Go_st rfl rfl ?_
  refine Go_st rfl rfl ?_
  refine Go_st rfl rfl ?_
  refine Go_st rfl rfl ?_
  refine Go_st rfl rfl ?_
  refine Go_st rfl rfl ?_
  refine Go_iald (v := 0) rfl rfl (by decide +kernel) (by decide +kernel) ?_
  refine Go_iast0 rfl rfl (by decide +kernel) ?_
  refine Go_st rfl rfl ?_
  refine Go_st rfl rfl ?_
  refine Go_st rfl rfl ?_
  refine Go_st rfl rfl ?_
  refine Go_st rfl rfl ?_
  refine Go_st rfl rfl ?_
  refine Go_iald (v := 0) rfl rfl (by decide +kernel) (by decide +kernel) ?_
  refine Go_iast0 rfl rfl (by decide +kernel) ?_
  refine Go_st rfl rfl ?_
  refine Go_st rfl rfl ?_
  refine Go_st rfl rfl ?_
  refine Go_st rfl rfl ?_
  refine Go_st rfl rfl ?_
  refine Go_st rfl rfl ?_
  refine Go_iald (v := 0) rfl rfl (by decide +kernel) (by decide +kernel) ?_
  refine Go_iast0 rfl rfl (by decide +kernel) ?_
  refine Go_incL (v := 2) (lv' := [(2, .int 2), (0, .ref 15), (1, .ref 4)]) rfl rfl (by decide +kernel) rfl ?_
  refine Go_st rfl rfl ?_
  refine Go_st rfl rfl ?_
  refine Go_st rfl rfl ?_
  refine Go_st rfl rfl ?_
  refine Go_ifF (by decide +kernel) ?_
  refine Go_st rfl rfl ?_
  refine Go_st rfl rfl ?_
  refine Go_st rfl rfl ?_
  refine Go_st rfl rfl ?_
  refine Go_st rfl rfl ?_
  refine Go_st rfl rfl ?_
  refine Go_iald (v := 0) rfl rfl (by decide +kernel) (by decide +kernel) ?_
  refine Go_iast0 rfl rfl (by decide +kernel) ?_
  refine Go_st rfl rfl ?_
  refine Go_st rfl rfl ?_
  refine Go_st rfl rfl ?_
  refine Go_st rfl rfl ?_
  refine Go_st rfl rfl ?_
  refine Go_st rfl rfl ?_
  refine Go_iald (v := 0) rfl rfl (by decide +kernel) (by decide +kernel) ?_
  refine Go_iast0 rfl rfl (by decide +kernel) ?_
  refine Go_st rfl rfl ?_
  refine Go_st rfl rfl ?_
  refine Go_st rfl rfl ?_
  refine Go_st rfl rfl ?_
  refine Go_st rfl rfl ?_
  refine Go_st rfl rfl ?_
  refine Go_iald (v := 0) rfl rfl (by decide +kernel) (by decide +kernel) ?_
  refine Go_iast0 rfl rfl (by decide +kernel) ?_
  refine Go_st rfl rfl ?_
  refine Go_st rfl rfl ?_
  refine Go_st rfl rfl ?_
  refine Go_st rfl rfl ?_
  refine Go_st rfl rfl ?_
  refine Go_st rfl rfl ?_
  refine Go_iald (v := 0) rfl rfl (by decide +kernel) (by decide +kernel) ?_
  refine Go_iast0 rfl rfl (by decide +kernel) ?_
  refine Go_st rfl rfl ?_
  refine Go_st rfl rfl ?_
  refine Go_st rfl rfl ?_
  refine Go_st rfl rfl ?_
  refine Go_st rfl rfl ?_
  refine Go_st rfl rfl ?_
  refine Go_iald (v := 0) rfl rfl (by decide +kernel) (by decide +kernel) ?_
  refine Go_iast0 rfl rfl (by decide +kernel) ?_
  refine Go_incL (v := 3) (lv' := [(2, .int 3), (0, .ref 15), (1, .ref 4)]) rfl rfl (by decide +kernel) rfl ?_
  refine Go_st rfl rfl ?_
  refine Go_st rfl rfl ?_
  refine Go_st rfl rfl ?_
  refine Go_st rfl rfl ?_
  refine Go_ifF (by decide +kernel) ?_
  refine Go_st rfl rfl ?_
  refine Go_st rfl rfl ?_
  refine Go_st rfl rfl ?_
  refine Go_st rfl rfl ?_
  refine Go_st rfl rfl ?_
  refine Go_st rfl rfl ?_
  refine Go_iald (v := 0) rfl rfl (by decide +kernel) (by decide +kernel) ?_
  refine Go_iast0 rfl rfl (by decide +kernel) ?_
  refine Go_st rfl rfl ?_
  refine Go_st rfl rfl ?_
  refine Go_st rfl rfl ?_
  refine Go_st rfl rfl ?_
  refine Go_st rfl rfl ?_
  refine Go_st rfl rfl ?_
  refine Go_iald (v := 0) rfl rfl (by decide +kernel) (by decide +kernel) ?_
  refine Go_iast0 rfl rfl (by decide +kernel) ?_
  refine Go_st rfl rfl ?_
  refine Go_st rfl rfl ?_
  refine Go_st rfl rfl ?_
  refine Go_st rfl rfl ?_
  refine Go_st rfl rfl ?_
  refine Go_st rfl rfl ?_
  refine Go_iald (v := 0) rfl rfl (by decide +kernel) (by decide +kernel) ?_
  refine Go_iast0 rfl rfl (by decide +kernel) ?_
  refine Go_st rfl rfl ?_
  refine Go_st rfl rfl ?_
  refine Go_st rfl rfl ?_
  refine Go_st rfl rfl ?_
  refine Go_st rfl rfl ?_
  refine Go_st rfl rfl ?_
  refine Go_iald (v := 0) rfl rfl (by decide +kernel) (by decide +kernel) ?_
  refine Go_iast0 rfl rfl (by decide +kernel) ?_
  refine Go_st rfl rfl ?_
  refine Go_st rfl rfl ?_
  refine Go_st rfl rfl ?_
  refine Go_st rfl rfl ?_
  refine Go_st rfl rfl ?_
  refine Go_st rfl rfl ?_
  refine Go_iald (v := 0) rfl rfl (by decide +kernel) (by decide +kernel) ?_
  refine Go_iast0 rfl rfl (by decide +kernel) ?_
  refine Go_incL (v := 4) (lv' := [(2, .int 4), (0, .ref 15), (1, .ref 4)]) rfl rfl (by decide +kernel) rfl ?_
  refine Go_st rfl rfl ?_
  refine Go_st rfl rfl ?_
  refine Go_st rfl rfl ?_
  refine Go_st rfl rfl ?_
  refine Go_ifF (by decide +kernel) ?_
  refine Go_st rfl rfl ?_
  refine Go_st rfl rfl ?_
  refine Go_st rfl rfl ?_
  refine Go_st rfl rfl ?_
  refine Go_st rfl rfl ?_
  refine Go_st rfl rfl ?_
  refine Go_iald (v := 0) rfl rfl (by decide +kernel) (by decide +kernel) ?_
  refine Go_iast0 rfl rfl (by decide +kernel) ?_
  refine Go_st rfl rfl ?_
  refine Go_st rfl rfl ?_
  refine Go_st rfl rfl ?_
  refine Go_st rfl rfl ?_
  refine Go_st rfl rfl ?_
  refine Go_st rfl rfl ?_
  refine Go_iald (v := 0) rfl rfl (by decide +kernel) (by decide +kernel) ?_
  refine Go_iast0 rfl rfl (by decide +kernel) ?_
  refine Go_st rfl rfl ?_
  refine Go_st rfl rfl ?_
  refine Go_st rfl rfl ?_
  refine Go_st rfl rfl ?_
  refine Go_st rfl rfl ?_
  refine Go_st rfl rfl ?_
  refine Go_iald (v := 0) rfl rfl (by decide +kernel) (by decide +kernel) ?_
  refine Go_iast0 rfl rfl (by decide +kernel) ?_
  refine Go_st rfl rfl ?_
  refine Go_st rfl rfl ?_
  refine Go_st rfl rfl ?_
  refine Go_st rfl rfl ?_
  refine Go_st rfl rfl ?_
  refine Go_st rfl rfl ?_
  refine Go_iald (v := 0) rfl rfl (by decide +kernel) (by decide +kernel) ?_
  refine Go_iast0 rfl rfl (by decide +kernel) ?_
  refine Go_st rfl rfl ?_
  refine Go_st rfl rfl ?_
  refine Go_st rfl rfl ?_
  refine Go_st rfl rfl ?_
  refine Go_st rfl rfl ?_
  refine Go_st rfl rfl ?_
  refine Go_iald (v := 0) rfl rfl (by decide +kernel) (by decide +kernel) ?_
  refine Go_iast0 rfl rfl (by decide +kernel) ?_
  refine Go_incL (v := 5) (lv' := [(2, .int 5), (0, .ref 15), (1, .ref 4)]) rfl rfl (by decide +kernel) rfl ?_
  refine Go_st rfl rfl ?_
  refine Go_st rfl rfl ?_
  refine Go_st rfl rfl ?_
  refine Go_st rfl rfl ?_
  refine Go_ifF (by decide +kernel) ?_
  refine Go_st rfl rfl ?_
  refine Go_st rfl rfl ?_
  refine Go_st rfl rfl ?_
  refine Go_st rfl rfl ?_
  refine Go_st rfl rfl ?_
  refine Go_st rfl rfl ?_
  refine Go_iald (v := 0) rfl rfl (by decide +kernel) (by decide +kernel) ?_
  refine Go_iast0 rfl rfl (by decide +kernel) ?_
  refine Go_st rfl rfl ?_
  refine Go_st rfl rfl ?_
  refine Go_st rfl rfl ?_
  refine Go_st rfl rfl ?_
  refine Go_st rfl rfl ?_
  refine Go_st rfl rfl ?_
  refine Go_iald (v := 0) rfl rfl (by decide +kernel) (by decide +kernel) ?_
  refine Go_iast0 rfl rfl (by decide +kernel) ?_
  refine Go_st rfl rfl ?_
  refine Go_st rfl rfl ?_
  refine Go_st rfl rfl ?_
  refine Go_st rfl rfl ?_
  refine Go_st rfl rfl ?_
  refine Go_st rfl rfl ?_
  refine Go_iald (v := 0) rfl rfl (by decide +kernel) (by decide +kernel) ?_
  refine Go_iast0 rfl rfl (by decide +kernel) ?_
  refine Go_st rfl rfl ?_
  refine Go_st rfl rfl ?_
  refine Go_st rfl rfl ?_
  refine Go_st rfl rfl ?_
  refine Go_st rfl rfl ?_
  refine Go_st rfl rfl ?_
  refine Go_iald (v := 0) rfl rfl (by decide +kernel) (by decide +kernel) ?_
  refine Go_iast0 rfl rfl (by decide +kernel) ?_
  refine Go_st rfl rfl ?_
  refine Go_st rfl rfl ?_
  refine Go_st rfl rfl ?_
  refine Go_st rfl rfl ?_
  refine Go_st rfl rfl ?_
  refine Go_st rfl rfl ?_
  refine Go_iald (v := 0) rfl rfl (by decide +kernel) (by decide +kernel) ?_
  refine Go_iast0 rfl rfl (by decide +kernel) ?_
  refine Go_incL (v := 6) (lv' := [(2, .int 6), (0, .ref 15), (1, .ref 4)]) rfl rfl (by decide +kernel) rfl ?_
  refine Go_st rfl rfl ?_
  refine Go_st rfl rfl ?_
  refine Go_st rfl rfl ?_
  refine Go_st rfl rfl ?_
  refine Go_ifF (by decide +kernel) ?_
  refine Go_st rfl rfl ?_
  refine Go_st rfl rfl ?_
  refine Go_st rfl rfl ?_
  refine Go_st rfl rfl ?_
  refine Go_st rfl rfl ?_
  refine Go_st rfl rfl ?_
  refine Go_iald (v := 0) rfl rfl (by decide +kernel) (by decide +kernel) ?_
  refine Go_iast0 rfl rfl (by decide +kernel) ?_
  refine Go_st rfl rfl ?_
  refine Go_st rfl rfl ?_
  refine Go_st rfl rfl ?_
  refine Go_st rfl rfl ?_
  refine Go_st rfl rfl ?_
  refine Go_st rfl rfl ?_
  refine Go_iald (v := 0) rfl rfl (by decide +kernel) (by decide +kernel) ?_
  refine Go_iast0 rfl rfl (by decide +kernel) ?_
  refine Go_st rfl rfl ?_
  refine Go_st rfl rfl ?_
  refine Go_st rfl rfl ?_
  refine Go_st rfl rfl ?_
  refine Go_st rfl rfl ?_
  refine Go_st rfl rfl ?_
  refine Go_iald (v := 0) rfl rfl (by decide +kernel) (by decide +kernel) ?_
  refine Go_iast0 rfl rfl (by decide +kernel) ?_
  refine Go_st rfl rfl ?_
  refine Go_st rfl rfl ?_
  refine Go_st rfl rfl ?_
  refine Go_st rfl rfl ?_
  refine Go_st rfl rfl ?_
  refine Go_st rfl rfl ?_
  refine Go_iald (v := 0) rfl rfl (by decide +kernel) (by decide +kernel) ?_
  refine Go_iast0 rfl rfl (by decide +kernel) ?_
  refine Go_st rfl rfl ?_
  refine Go_st rfl rfl ?_
  refine Go_st rfl rfl ?_
  refine Go_st rfl rfl ?_
  refine Go_st rfl rfl ?_
  refine Go_st rfl rfl ?_
  refine Go_iald (v := 0) rfl rfl (by decide +kernel) (by decide +kernel) ?_
  refine Go_iast0 rfl rfl (by decide +kernel) ?_
  refine Go_incL (v := 7) (lv' := [(2, .int 7), (0, .ref 15), (1, .ref 4)]) rfl rfl (by decide +kernel) rfl ?_
  refine Go_st rfl rfl ?_
  refine Go_st rfl rfl ?_
  refine Go_st rfl rfl ?_
  refine Go_st rfl rfl ?_
  refine Go_ifF (by decide +kernel) ?_
  refine Go_st rfl rfl ?_
  refine Go_st rfl rfl ?_
  refine Go_st rfl rfl ?_
  refine Go_st rfl rfl ?_
  refine Go_st rfl rfl ?_
  refine Go_st rfl rfl ?_
  refine Go_iald (v := 0) rfl rfl (by decide +kernel) (by decide +kernel) ?_
  refine Go_iast0 rfl rfl (by decide +kernel) ?_
  refine Go_st rfl rfl ?_
  refine Go_st rfl rfl ?_
  refine Go_st rfl rfl ?_
  refine Go_st rfl rfl ?_
  refine Go_st rfl rfl ?_
  refine Go_st rfl rfl ?_
  refine Go_iald (v := 0) rfl rfl (by decide +kernel) (by decide +kernel) ?_
  refine Go_iast0 rfl rfl (by decide +kernel) ?_
  refine Go_st rfl rfl ?_
  refine Go_st rfl rfl ?_
  refine Go_st rfl rfl ?_
  refine Go_st rfl rfl ?_
  refine Go_st rfl rfl ?_
  refine Go_st rfl rfl ?_
  refine Go_iald (v := 0) rfl rfl (by decide +kernel) (by decide +kernel) ?_
  refine Go_iast0 rfl rfl (by decide +kernel) ?_
  refine Go_st rfl rfl ?_
  refine Go_st rfl rfl ?_
  refine Go_st rfl rfl ?_
  refine Go_st rfl rfl ?_
  refine Go_st rfl rfl ?_
  refine Go_st rfl rfl ?_
  refine Go_iald (v := 0) rfl rfl (by decide +kernel) (by decide +kernel) ?_
  refine Go_iast0 rfl rfl (by decide +kernel) ?_
  refine Go_st rfl rfl ?_
  refine Go_st rfl rfl ?_
  refine Go_st rfl rfl ?_
  refine Go_st rfl rfl ?_
  refine Go_st rfl rfl ?_
  refine Go_st rfl rfl ?_
  refine Go_iald (v := 0) rfl rfl (by decide +kernel) (by decide +kernel) ?_
  refine Go_iast0 rfl rfl (by decide +kernel) ?_
  refine Go_incL (v := 8) (lv' := [(2, .int 8), (0, .ref 15), (1, .ref 4)]) rfl rfl (by decide +kernel) rfl ?_
  refine Go_st rfl rfl ?_
  refine Go_st rfl rfl ?_
  refine Go_st rfl rfl ?_
  refine Go_st rfl rfl ?_
  refine Go_ifT (by decide +kernel) ?_
  refine Go_st rfl rfl ?_
  refine Go_st rfl rfl ?_
  refine Go_st rfl rfl ?_
  refine Go_st rfl rfl ?_
  refine Go_st rfl rfl ?_
  refine Go_ifF (by decide +kernel) ?_
  refine Go_st rfl rfl ?_
  refine Go_st rfl rfl ?_
  refine Go_st rfl rfl ?_
  refine Go_st rfl rfl ?_
  refine Go_st rfl rfl ?_
  refine Go_st rfl rfl ?_
  refine Go_iald (v := 0) rfl rfl (by decide +kernel) (by decide +kernel) ?_
  refine Go_iast0 rfl rfl (by decide +kernel) ?_
  refine Go_st rfl rfl ?_
  refine Go_st rfl rfl ?_
  refine Go_st rfl rfl ?_
  refine Go_st rfl rfl ?_
  refine Go_st rfl rfl ?_
  refine Go_st rfl rfl ?_
  refine Go_iald (v := 0) rfl rfl (by decide +kernel) (by decide +kernel) ?_
  refine Go_iast0 rfl rfl (by decide +kernel) ?_
  refine Go_st rfl rfl ?_
  refine Go_st rfl rfl ?_
  refine Go_st rfl rfl ?_
  refine Go_st rfl rfl ?_
  refine Go_st rfl rfl ?_
  refine Go_st rfl rfl ?_
  refine Go_zald (v := 0) rfl rfl (by decide +kernel) (by decide +kernel) ?_
  refine Go_zast0 rfl rfl (by decide +kernel) ?_
  refine Go_incL (v := 1) (lv' := [(2, .int 1), (0, .ref 15), (1, .ref 4)]) rfl rfl (by decide +kernel) rfl ?_
  refine Go_st rfl rfl ?_
  refine Go_st rfl rfl ?_
  refine Go_st rfl rfl ?_
  refine Go_st rfl rfl ?_
  refine Go_ifF (by decide +kernel) ?_
  refine Go_st rfl rfl ?_
  refine Go_st rfl rfl ?_
  refine Go_st rfl rfl ?_
  refine Go_st rfl rfl ?_
  refine Go_st rfl rfl ?_
  refine Go_st rfl rfl ?_
  refine Go_iald (v := 0) rfl rfl (by decide +kernel) (by decide +kernel) ?_
  refine Go_iast0 rfl rfl (by decide +kernel) ?_
  refine Go_st rfl rfl ?_
  refine Go_st rfl rfl ?_
  refine Go_st rfl rfl ?_
  refine Go_st rfl rfl ?_
  refine Go_st rfl rfl ?_
  refine Go_st rfl rfl ?_
  refine Go_iald (v := 0) rfl rfl (by decide +kernel) (by decide +kernel) ?_
  refine Go_iast0 rfl rfl (by decide +kernel) ?_
  refine Go_st rfl rfl ?_
  refine Go_st rfl rfl ?_
  refine Go_st rfl rfl ?_
  refine Go_st rfl rfl ?_
  refine Go_st rfl rfl ?_
  refine Go_st rfl rfl ?_
  refine Go_zald (v := 0) rfl rfl (by decide +kernel) (by decide +kernel) ?_
  refine Go_zast0 rfl rfl (by decide +kernel) ?_
  refine Go_incL (v := 2) (lv' := [(2, .int 2), (0, .ref 15), (1, .ref 4)]) rfl rfl (by decide +kernel) rfl ?_
  refine Go_st rfl rfl ?_
  refine Go_st rfl rfl ?_
  refine Go_st rfl rfl ?_
  refine Go_st rfl rfl ?_
  refine Go_ifF (by decide +kernel) ?_
  refine Go_st rfl rfl ?_
  refine Go_st rfl rfl ?_
  refine Go_st rfl rfl ?_
  refine Go_st rfl rfl ?_
  refine Go_st rfl rfl ?_
  refine Go_st rfl rfl ?_
  refine Go_iald (v := 0) rfl rfl (by decide +kernel) (by decide +kernel) ?_
  refine Go_iast0 rfl rfl (by decide +kernel) ?_
  refine Go_st rfl rfl ?_
  refine Go_st rfl rfl ?_
  refine Go_st rfl rfl ?_
  refine Go_st rfl rfl ?_
  refine Go_st rfl rfl ?_
  refine Go_st rfl rfl ?_
  refine Go_iald (v := 0) rfl rfl (by decide +kernel) (by decide +kernel) ?_
  refine Go_iast0 rfl rfl (by decide +kernel) ?_
  refine Go_st rfl rfl ?_
  refine Go_st rfl rfl ?_
  refine Go_st rfl rfl ?_
  refine Go_st rfl rfl ?_
  refine Go_st rfl rfl ?_
  refine Go_st rfl rfl ?_
  refine Go_zald (v := 0) rfl rfl (by decide +kernel) (by decide +kernel) ?_
  refine Go_zast0 rfl rfl (by decide +kernel) ?_
  refine Go_incL (v := 3) (lv' := [(2, .int 3), (0, .ref 15), (1, .ref 4)]) rfl rfl (by decide +kernel) rfl ?_
  refine Go_st rfl rfl ?_
  refine Go_st rfl rfl ?_
  refine Go_st rfl rfl ?_
  refine Go_st rfl rfl ?_
  refine Go_ifF (by decide +kernel) ?_
  refine Go_st rfl rfl ?_
  refine Go_st rfl rfl ?_
  refine Go_st rfl rfl ?_
  refine Go_st rfl rfl ?_
  refine Go_st rfl rfl ?_
  refine Go_st rfl rfl ?_
  refine Go_iald (v := 0) rfl rfl (by decide +kernel) (by decide +kernel) ?_
  refine Go_iast0 rfl rfl (by decide +kernel) ?_
  refine Go_st rfl rfl ?_
  refine Go_st rfl rfl ?_
  refine Go_st rfl rfl ?_
  refine Go_st rfl rfl ?_
  refine Go_st rfl rfl ?_
  refine Go_st rfl rfl ?_
  refine Go_iald (v := 0) rfl rfl (by decide +kernel) (by decide +kernel) ?_
  refine Go_iast0 rfl rfl (by decide +kernel) ?_
  refine Go_st rfl rfl ?_
  refine Go_st rfl rfl ?_
  refine Go_st rfl rfl ?_
  refine Go_st rfl rfl ?_
  refine Go_st rfl rfl ?_
  refine Go_st rfl rfl ?_
  refine Go_zald (v := 0) rfl rfl (by decide +kernel) (by decide +kernel) ?_
  refine Go_zast0 rfl rfl (by decide +kernel) ?_
  refine Go_incL (v := 4) (lv' := [(2, .int 4), (0, .ref 15), (1, .ref 4)]) rfl rfl (by decide +kernel) rfl ?_
  refine Go_st rfl rfl ?_
  refine Go_st rfl rfl ?_
  refine Go_st rfl rfl ?_
  refine Go_st rfl rfl ?_
  refine Go_ifF (by decide +kernel) ?_
  refine Go_st rfl rfl ?_
  refine Go_st rfl rfl ?_
  refine Go_st rfl rfl ?_
  refine Go_st rfl rfl ?_
  refine Go_st rfl rfl ?_
  refine Go_st rfl rfl ?_
  refine Go_iald (v := 0) rfl rfl (by decide +kernel) (by decide +kernel) ?_
  refine Go_iast0 rfl rfl (by decide +kernel) ?_
  refine Go_st rfl rfl ?_
  refine Go_st rfl rfl ?_
  refine Go_st rfl rfl ?_
  refine Go_st rfl rfl ?_
  refine Go_st rfl rfl ?_
  refine Go_st rfl rfl ?_
  refine Go_iald (v := 0) rfl rfl (by decide +kernel) (by decide +kernel) ?_
  refine Go_iast0 rfl rfl (by decide +kernel) ?_
  refine Go_st rfl rfl ?_
  refine Go_st rfl rfl ?_
  refine Go_st rfl rfl ?_
  refine Go_st rfl rfl ?_
  refine Go_st rfl rfl ?_
  refine Go_st rfl rfl ?_
  refine Go_zald (v := 0) rfl rfl (by decide +kernel) (by decide +kernel) ?_
  refine Go_zast0 rfl rfl (by decide +kernel) ?_
  refine Go_incL (v := 5) (lv' := [(2, .int 5), (0, .ref 15), (1, .ref 4)]) rfl rfl (by decide +kernel) rfl ?_
  refine Go_st rfl rfl ?_
  refine Go_st rfl rfl ?_
  refine Go_st rfl rfl ?_
  refine Go_st rfl rfl ?_
  refine Go_ifF (by decide +kernel) ?_
  refine Go_st rfl rfl ?_
  refine Go_st rfl rfl ?_
  refine Go_st rfl rfl ?_
  refine Go_st rfl rfl ?_
  refine Go_st rfl rfl ?_
  refine Go_st rfl rfl ?_
  refine Go_iald (v := 0) rfl rfl (by decide +kernel) (by decide +kernel) ?_
  refine Go_iast0 rfl rfl (by decide +kernel) ?_
  refine Go_st rfl rfl ?_
  refine Go_st rfl rfl ?_
  refine Go_st rfl rfl ?_
  refine Go_st rfl rfl ?_
  refine Go_st rfl rfl ?_
  refine Go_st rfl rfl ?_
  refine Go_iald (v := 0) rfl rfl (by decide +kernel) (by decide +kernel) ?_
  refine Go_iast0 rfl rfl (by decide +kernel) ?_
  refine Go_st rfl rfl ?_
  refine Go_st rfl rfl ?_
  refine Go_st rfl rfl ?_
  refine Go_st rfl rfl ?_
  refine Go_st rfl rfl ?_
  refine Go_st rfl rfl ?_
  refine Go_zald (v := 0) rfl rfl (by decide +kernel) (by decide +kernel) ?_
  refine Go_zast0 rfl rfl (by decide +kernel) ?_
  refine Go_incL (v := 6) (lv' := [(2, .int 6), (0, .ref 15), (1, .ref 4)]) rfl rfl (by decide +kernel) rfl ?_
  refine Go_st rfl rfl ?_
  refine Go_st rfl rfl ?_
  refine Go_st rfl rfl ?_
  refine Go_st rfl rfl ?_
  refine Go_ifF (by decide +kernel) ?_
  refine Go_st rfl rfl ?_
  refine Go_st rfl rfl ?_
  refine Go_st rfl rfl ?_
  refine Go_st rfl rfl ?_
  refine Go_st rfl rfl ?_
  refine Go_st rfl rfl ?_
  refine Go_iald (v := 0) rfl rfl (by decide +kernel) (by decide +kernel) ?_
  refine Go_iast0 rfl rfl (by decide +kernel) ?_
  refine Go_st rfl rfl ?_
  refine Go_st rfl rfl ?_
  refine Go_st rfl rfl ?_
  refine Go_st rfl rfl ?_
  refine Go_st rfl rfl ?_
  refine Go_st rfl rfl ?_
  refine Go_iald (v := 0) rfl rfl (by decide +kernel) (by decide +kernel) ?_
  refine Go_iast0 rfl rfl (by decide +kernel) ?_
  refine Go_st rfl rfl ?_
  refine Go_st rfl rfl ?_
  refine Go_st rfl rfl ?_
  refine Go_st rfl rfl ?_
  refine Go_st rfl rfl ?_
  refine Go_st rfl rfl ?_
  refine Go_zald (v := 0) rfl rfl (by decide +kernel) (by decide +kernel) ?_
  refine Go_zast0 rfl rfl (by decide +kernel) ?_
  refine Go_incL (v := 7) (lv' := [(2, .int 7), (0, .ref 15), (1, .ref 4)]) rfl rfl (by decide +kernel) rfl ?_
  refine Go_st rfl rfl ?_
  refine Go_st rfl rfl ?_
  refine Go_st rfl rfl ?_
  refine Go_st rfl rfl ?_
  refine Go_ifF (by decide +kernel) ?_
  refine Go_st rfl rfl ?_
  refine Go_st rfl rfl ?_
  refine Go_st rfl rfl ?_
  refine Go_st rfl rfl ?_
  refine Go_st rfl rfl ?_
  refine Go_st rfl rfl ?_
  refine Go_iald (v := 0) rfl rfl (by decide +kernel) (by decide +kernel) ?_
  refine Go_iast0 rfl rfl (by decide +kernel) ?_
  refine Go_st rfl rfl ?_
  refine Go_st rfl rfl ?_
  refine Go_st rfl rfl ?_
  refine Go_st rfl rfl ?_
  refine Go_st rfl rfl ?_
  refine Go_st rfl rfl ?_
  refine Go_iald (v := 0) rfl rfl (by decide +kernel) (by decide +kernel) ?_
  refine Go_iast0 rfl rfl (by decide +kernel) ?_
  refine Go_st rfl rfl ?_
  refine Go_st rfl rfl ?_
  refine Go_st rfl rfl ?_
  refine Go_st rfl rfl ?_
  refine Go_st rfl rfl ?_
  refine Go_st rfl rfl ?_
  refine Go_zald (v := 0) rfl rfl (by decide +kernel) (by decide +kernel) ?_
  refine Go_zast0 rfl rfl (by decide +kernel) ?_
  refine Go_incL (v := 8) (lv' := [(2, .int 8), (0, .ref 15), (1, .ref 4)]) rfl rfl (by decide +kernel) rfl ?_
  refine Go_st rfl rfl ?_
  refine Go_st rfl rfl ?_
  refine Go_st rfl rfl ?_
  refine Go_st rfl rfl ?_
  refine Go_ifF (by decide +kernel) ?_
  refine Go_st rfl rfl ?_
  refine Go_st rfl rfl ?_
  refine Go_st rfl rfl ?_
  refine Go_st rfl rfl ?_
  refine Go_st rfl rfl ?_
  refine Go_st rfl rfl ?_
  refine Go_iald (v := 0) rfl rfl (by decide +kernel) (by decide +kernel) ?_
  refine Go_iast0 rfl rfl (by decide +kernel) ?_
  refine Go_st rfl rfl ?_
  refine Go_st rfl rfl ?_
  refine Go_st rfl rfl ?_
  refine Go_st rfl rfl ?_
  refine Go_st rfl rfl ?_
  refine Go_st rfl rfl ?_
  refine Go_iald (v := 0) rfl rfl (by decide +kernel) (by decide +kernel) ?_
  refine Go_iast0 rfl rfl (by decide +kernel) ?_
  refine Go_st rfl rfl ?_
  refine Go_st rfl rfl ?_
  refine Go_st rfl rfl ?_
  refine Go_st rfl rfl ?_
  refine Go_st rfl rfl ?_
  refine Go_st rfl rfl ?_
  refine Go_zald (v := 0) rfl rfl (by decide +kernel) (by decide +kernel) ?_
  refine Go_zast0 rfl rfl (by decide +kernel) ?_
  refine Go_incL (v := 9) (lv' := [(2, .int 9), (0, .ref 15), (1, .ref 4)]) rfl rfl (by decide +kernel) rfl ?_
  refine Go_st rfl rfl ?_
  refine Go_st rfl rfl ?_
  refine Go_st rfl rfl ?_
  refine Go_st rfl rfl ?_
  refine Go_ifF (by decide +kernel) ?_
  refine Go_st rfl rfl ?_
  refine Go_st rfl rfl ?_
  refine Go_st rfl rfl ?_
  refine Go_st rfl rfl ?_
  refine Go_st rfl rfl ?_
  refine Go_st rfl rfl ?_
  refine Go_iald (v := 0) rfl rfl (by decide +kernel) (by decide +kernel) ?_
  refine Go_iast0 rfl rfl (by decide +kernel) ?_
  refine Go_st rfl rfl ?_
  refine Go_st rfl rfl ?_
  refine Go_st rfl rfl ?_
  refine Go_st rfl rfl ?_
  refine Go_st rfl rfl ?_
  refine Go_st rfl rfl ?_
  refine Go_iald (v := 0) rfl rfl (by decide +kernel) (by decide +kernel) ?_
  refine Go_iast0 rfl rfl (by decide +kernel) ?_
  refine Go_st rfl rfl ?_
  refine Go_st rfl rfl ?_
  refine Go_st rfl rfl ?_
  refine Go_st rfl rfl ?_
  refine Go_st rfl rfl ?_
  refine Go_st rfl rfl ?_
  refine Go_zald (v := 0) rfl rfl (by decide +kernel) (by decide +kernel) ?_
  refine Go_zast0 rfl rfl (by decide +kernel) ?_
  refine Go_incL (v := 10) (lv' := [(2, .int 10), (0, .ref 15), (1, .ref 4)]) rfl rfl (by decide +kernel) rfl ?_
  refine Go_st rfl rfl ?_
  refine Go_st rfl rfl ?_
  refine Go_st rfl rfl ?_
  refine Go_st rfl rfl ?_
  refine Go_ifF (by decide +kernel) ?_
  refine Go_st rfl rfl ?_
  refine Go_st rfl rfl ?_
  refine Go_st rfl rfl ?_
  refine Go_st rfl rfl ?_
  refine Go_st rfl rfl ?_
  refine Go_st rfl rfl ?_
  refine Go_iald (v := 0) rfl rfl (by decide +kernel) (by decide +kernel) ?_
  refine Go_iast0 rfl rfl (by decide +kernel) ?_
  refine Go_st rfl rfl ?_
  refine Go_st rfl rfl ?_
  refine Go_st rfl rfl ?_
  refine Go_st rfl rfl ?_
  refine Go_st rfl rfl ?_
  refine Go_st rfl rfl ?_
  refine Go_iald (v := 0) rfl rfl (by decide +kernel) (by decide +kernel) ?_
  refine Go_iast0 rfl rfl (by decide +kernel) ?_
  refine Go_st rfl rfl ?_
  refine Go_st rfl rfl ?_
  refine Go_st rfl rfl ?_
  refine Go_st rfl rfl ?_
  refine Go_st rfl rfl ?_
  refine Go_st rfl rfl ?_
  refine Go_zald (v := 0) rfl rfl (by decide +kernel) (by decide +kernel) ?_
  refine Go_zast0 rfl rfl (by decide +kernel) ?_
  refine Go_incL (v := 11) (lv' := [(2, .int 11), (0, .ref 15), (1, .ref 4)]) rfl rfl (by decide +kernel) rfl ?_
  refine Go_st rfl rfl ?_
  refine Go_st rfl rfl ?_
  refine Go_st rfl rfl ?_
  refine Go_st rfl rfl ?_
  refine Go_ifF (by decide +kernel) ?_
  refine Go_st rfl rfl ?_
  refine Go_st rfl rfl ?_
  refine Go_st rfl rfl ?_
  refine Go_st rfl rfl ?_
  refine Go_st rfl rfl ?_
  refine Go_st rfl rfl ?_
  refine Go_iald (v := 0) rfl rfl (by decide +kernel) (by decide +kernel) ?_
  refine Go_iast0 rfl rfl (by decide +kernel) ?_
  refine Go_st rfl rfl ?_
  refine Go_st rfl rfl ?_
  refine Go_st rfl rfl ?_
  refine Go_st rfl rfl ?_
  refine Go_st rfl rfl ?_
  refine Go_st rfl rfl ?_
  refine Go_iald (v := 0) rfl rfl (by decide +kernel) (by decide +kernel) ?_
  refine Go_iast0 rfl rfl (by decide +kernel) ?_
  refine Go_st rfl rfl ?_
  refine Go_st rfl rfl ?_
  refine Go_st rfl rfl ?_
  refine Go_st rfl rfl ?_
  refine Go_st rfl rfl ?_
  refine Go_st rfl rfl ?_
  refine Go_zald (v := 0) rfl rfl (by decide +kernel) (by decide +kernel) ?_
  refine Go_zast0 rfl rfl (by decide +kernel) ?_
  refine Go_incL (v := 12) (lv' := [(2, .int 12), (0, .ref 15), (1, .ref 4)]) rfl rfl (by decide +kernel) rfl ?_
  refine Go_st rfl rfl ?_
  refine Go_st rfl rfl ?_
  refine Go_st rfl rfl ?_
  refine Go_st rfl rfl ?_
  refine Go_ifF (by decide +kernel) ?_
  refine Go_st rfl rfl ?_
  refine Go_st rfl rfl ?_
  refine Go_st rfl rfl ?_
  refine Go_st rfl rfl ?_
  refine Go_st rfl rfl ?_
  refine Go_st rfl rfl ?_
  refine Go_iald (v := 0) rfl rfl (by decide +kernel) (by decide +kernel) ?_
  refine Go_iast0 rfl rfl (by decide +kernel) ?_
  refine Go_st rfl rfl ?_
  refine Go_st rfl rfl ?_
  refine Go_st rfl rfl ?_
  refine Go_st rfl rfl ?_
  refine Go_st rfl rfl ?_
  refine Go_st rfl rfl ?_
  refine Go_iald (v := 0) rfl rfl (by decide +kernel) (by decide +kernel) ?_
  refine Go_iast0 rfl rfl (by decide +kernel) ?_
  refine Go_st rfl rfl ?_
  refine Go_st rfl rfl ?_
  refine Go_st rfl rfl ?_
  refine Go_st rfl rfl ?_
  refine Go_st rfl rfl ?_
  refine Go_st rfl rfl ?_
  refine Go_zald (v := 0) rfl rfl (by decide +kernel) (by decide +kernel) ?_
  refine Go_zast0 rfl rfl (by decide +kernel) ?_
  refine Go_incL (v := 13) (lv' := [(2, .int 13), (0, .ref 15), (1, .ref 4)]) rfl rfl (by decide +kernel) rfl ?_
  refine Go_st rfl rfl ?_
  refine Go_st rfl rfl ?_
  refine Go_st rfl rfl ?_
  refine Go_st rfl rfl ?_
  refine Go_ifF (by decide +kernel) ?_
  refine Go_st rfl rfl ?_
  refine Go_st rfl rfl ?_
  refine Go_st rfl rfl ?_
  refine Go_st rfl rfl ?_
  refine Go_st rfl rfl ?_
  refine Go_st rfl rfl ?_
  refine Go_iald (v := 0) rfl rfl (by decide +kernel) (by decide +kernel) ?_
  refine Go_iast0 rfl rfl (by decide +kernel) ?_
  refine Go_st rfl rfl ?_
  refine Go_st rfl rfl ?_
  refine Go_st rfl rfl ?_
  refine Go_st rfl rfl ?_
  refine Go_st rfl rfl ?_
  refine Go_st rfl rfl ?_
  refine Go_iald (v := 0) rfl rfl (by decide +kernel) (by decide +kernel) ?_
  refine Go_iast0 rfl rfl (by decide +kernel) ?_
  refine Go_st rfl rfl ?_
  refine Go_st rfl rfl ?_
  refine Go_st rfl rfl ?_
  refine Go_st rfl rfl ?_
  refine Go_st rfl rfl ?_
  refine Go_st rfl rfl ?_
  refine Go_zald (v := 0) rfl rfl (by decide +kernel) (by decide +kernel) ?_
  refine Go_zast0 rfl rfl (by decide +kernel) ?_
  refine Go_incL (v := 14) (lv' := [(2, .int 14), (0, .ref 15), (1, .ref 4)]) rfl rfl (by decide +kernel) rfl ?_
  refine Go_st rfl rfl ?_
  refine Go_st rfl rfl ?_
  refine Go_st rfl rfl ?_
  refine Go_st rfl rfl ?_
  refine Go_ifF (by decide +kernel) ?_
  refine Go_st rfl rfl ?_
  refine Go_st rfl rfl ?_
  refine Go_st rfl rfl ?_
  refine Go_st rfl rfl ?_
  refine Go_st rfl rfl ?_
  refine Go_st rfl rfl ?_
  refine Go_iald (v := 0) rfl rfl (by decide +kernel) (by decide +kernel) ?_
  refine Go_iast0 rfl rfl (by decide +kernel) ?_
  refine Go_st rfl rfl ?_
  refine Go_st rfl rfl ?_
  refine Go_st rfl rfl ?_
  refine Go_st rfl rfl ?_
  refine Go_st rfl rfl ?_
  refine Go_st rfl rfl ?_
  refine Go_iald (v := 0) rfl rfl (by decide +kernel) (by decide +kernel) ?_
  refine Go_iast0 rfl rfl (by decide +kernel) ?_
  refine Go_st rfl rfl ?_
  refine Go_st rfl rfl ?_
  refine Go_st rfl rfl ?_
  refine Go_st rfl rfl ?_
  refine Go_st rfl rfl ?_
  refine Go_st rfl rfl ?_
  refine Go_zald (v := 0) rfl rfl (by decide +kernel) (by decide +kernel) ?_
  refine Go_zast0 rfl rfl (by decide +kernel) ?_
  refine Go_incL (v := 15) (lv' := [(2, .int 15), (0, .ref 15), (1, .ref 4)]) rfl rfl (by decide +kernel) rfl ?_
  refine Go_st rfl rfl ?_
  refine Go_st rfl rfl ?_
  refine Go_st rfl rfl ?_
  refine Go_st rfl rfl ?_
  refine Go_ifF (by decide +kernel) ?_
  refine Go_st rfl rfl ?_
  refine Go_st rfl rfl ?_
  refine Go_st rfl rfl ?_
  refine Go_st rfl rfl ?_
  refine Go_st rfl rfl ?_
  refine Go_st rfl rfl ?_
  refine Go_iald (v := 0) rfl rfl (by decide +kernel) (by decide +kernel) ?_
  refine Go_iast0 rfl rfl (by decide +kernel) ?_
  refine Go_st rfl rfl ?_
  refine Go_st rfl rfl ?_
  refine Go_st rfl rfl ?_
  refine Go_st rfl rfl ?_
  refine Go_st rfl rfl ?_
  refine Go_st rfl rfl ?_
  refine Go_iald (v := 0) rfl rfl (by decide +kernel) (by decide +kernel) ?_
  refine Go_iast0 rfl rfl (by decide +kernel) ?_
  refine Go_st rfl rfl ?_
  refine Go_st rfl rfl ?_
  refine Go_st rfl rfl ?_
  refine Go_st rfl rfl ?_
  refine Go_st rfl rfl ?_
  refine Go_st rfl rfl ?_
  refine Go_zald (v := 0) rfl rfl (by decide +kernel) (by decide +kernel) ?_
  refine Go_zast0 rfl rfl (by decide +kernel) ?_
  refine Go_incL (v := 16) (lv' := [(2, .int 16), (0, .ref 15), (1, .ref 4)]) rfl rfl (by decide +kernel) rfl ?_
  refine Go_st rfl rfl ?_
  refine Go_st rfl rfl ?_
  refine Go_st rfl rfl ?_
  refine Go_st rfl rfl ?_
  refine Go_ifF (by decide +kernel) ?_
  refine Go_st rfl rfl ?_
  refine Go_st rfl rfl ?_
  refine Go_st rfl rfl ?_
  refine Go_st rfl rfl ?_
  refine Go_st rfl rfl ?_
  refine Go_st rfl rfl ?_
  refine Go_iald (v := 0) rfl rfl (by decide +kernel) (by decide +kernel) ?_
  refine Go_iast0 rfl rfl (by decide +kernel) ?_
  refine Go_st rfl rfl ?_
  refine Go_st rfl rfl ?_
  refine Go_st rfl rfl ?_
  refine Go_st rfl rfl ?_
  refine Go_st rfl rfl ?_
  refine Go_st rfl rfl ?_
  refine Go_iald (v := 0) rfl rfl (by decide +kernel) (by decide +kernel) ?_
  refine Go_iast0 rfl rfl (by decide +kernel) ?_
  refine Go_st rfl rfl ?_
  refine Go_st rfl rfl ?_
  refine Go_st rfl rfl ?_
  refine Go_st rfl rfl ?_
  refine Go_st rfl rfl ?_
  refine Go_st rfl rfl ?_
  refine Go_zald (v := 0) rfl rfl (by decide +kernel) (by decide +kernel) ?_
  refine Go_zast0 rfl rfl (by decide +kernel) ?_
  refine Go_incL (v := 17) (lv' := [(2, .int 17), (0, .ref 15), (1, .ref 4)]) rfl rfl (by decide +kernel) rfl ?_
  refine Go_st rfl rfl ?_
  refine Go_st rfl rfl ?_
  refine Go_st rfl rfl ?_
  refine Go_st rfl rfl ?_
  refine Go_ifF (by decide +kernel) ?_
  refine Go_st rfl rfl ?_
  refine Go_st rfl rfl ?_
  refine Go_st rfl rfl ?_
  refine Go_st rfl rfl ?_
  refine Go_st rfl rfl ?_
  refine Go_st rfl rfl ?_
  refine Go_iald (v := 0) rfl rfl (by decide +kernel) (by decide +kernel) ?_
  refine Go_iast0 rfl rfl (by decide +kernel) ?_
  refine Go_st rfl rfl ?_
  refine Go_st rfl rfl ?_
  refine Go_st rfl rfl ?_
  refine Go_st rfl rfl ?_
  refine Go_st rfl rfl ?_
  refine Go_st rfl rfl ?_
  refine Go_iald (v := 0) rfl rfl (by decide +kernel) (by decide +kernel) ?_
  refine Go_iast0 rfl rfl (by decide +kernel) ?_
  refine Go_st rfl rfl ?_
  refine Go_st rfl rfl ?_
  refine Go_st rfl rfl ?_
  refine Go_st rfl rfl ?_
  refine Go_st rfl rfl ?_
  refine Go_st rfl rfl ?_
  refine Go_zald (v := 0) rfl rfl (by decide +kernel) (by decide +kernel) ?_
  refine Go_zast0 rfl rfl (by decide +kernel) ?_
  refine Go_incL (v := 18) (lv' := [(2, .int 18), (0, .ref 15), (1, .ref 4)]) rfl rfl (by decide +kernel) rfl ?_
  refine Go_st rfl rfl ?_
  refine Go_st rfl rfl ?_
  refine Go_st rfl rfl ?_
  refine Go_st rfl rfl ?_
  refine Go_ifF (by decide +kernel) ?_
  refine Go_st rfl rfl ?_
  refine Go_st rfl rfl ?_
  refine Go_st rfl rfl ?_
  refine Go_st rfl rfl ?_
  refine Go_st rfl rfl ?_
  refine Go_st rfl rfl ?_
  refine Go_iald (v := 0) rfl rfl (by decide +kernel) (by decide +kernel) ?_
  refine Go_iast0 rfl rfl (by decide +kernel) ?_
  refine Go_st rfl rfl ?_
  refine Go_st rfl rfl ?_
  refine Go_st rfl rfl ?_
  refine Go_st rfl rfl ?_
  refine Go_st rfl rfl ?_
  refine Go_st rfl rfl ?_
  refine Go_iald (v := 0) rfl rfl (by decide +kernel) (by decide +kernel) ?_
  refine Go_iast0 rfl rfl (by decide +kernel) ?_
  refine Go_st rfl rfl ?_
  refine Go_st rfl rfl ?_
  refine Go_st rfl rfl ?_
  refine Go_st rfl rfl ?_
  refine Go_st rfl rfl ?_
  refine Go_st rfl rfl ?_
  refine Go_zald (v := 0) rfl rfl (by decide +kernel) (by decide +kernel) ?_
  refine Go_zast0 rfl rfl (by decide +kernel) ?_
  refine Go_incL (v := 19) (lv' := [(2, .int 19), (0, .ref 15), (1, .ref 4)]) rfl rfl (by decide +kernel) rfl ?_
  refine Go_st rfl rfl ?_
  refine Go_st rfl rfl ?_
  refine Go_st rfl rfl ?_
  refine Go_st rfl rfl ?_
  refine Go_ifF (by decide +kernel) ?_
  refine Go_st rfl rfl ?_
  refine Go_st rfl rfl ?_
  refine Go_st rfl rfl ?_
  refine Go_st rfl rfl ?_
  refine Go_st rfl rfl ?_
  refine Go_st rfl rfl ?_
  refine Go_iald (v := 0) rfl rfl (by decide +kernel) (by decide +kernel) ?_
  refine Go_iast0 rfl rfl (by decide +kernel) ?_
  refine Go_st rfl rfl ?_
  refine Go_st rfl rfl ?_
  refine Go_st rfl rfl ?_
  refine Go_st rfl rfl ?_
  refine Go_st rfl rfl ?_
  refine Go_st rfl rfl ?_
  refine Go_iald (v := 0) rfl rfl (by decide +kernel) (by decide +kernel) ?_
  refine Go_iast0 rfl rfl (by decide +kernel) ?_
  refine Go_st rfl rfl ?_
  refine Go_st rfl rfl ?_
  refine Go_st rfl rfl ?_
  refine Go_st rfl rfl ?_
  refine Go_st rfl rfl ?_
  refine Go_st rfl rfl ?_
  refine Go_zald (v := 0) rfl rfl (by decide +kernel) (by decide +kernel) ?_
  refine Go_zast0 rfl rfl (by decide +kernel) ?_
  refine Go_incL (v := 20) (lv' := [(2, .int 20), (0, .ref 15), (1, .ref 4)]) rfl rfl (by decide +kernel) rfl ?_
  refine Go_st rfl rfl ?_
  refine Go_st rfl rfl ?_
  refine Go_st rfl rfl ?_
  refine Go_st rfl rfl ?_
  refine Go_ifT (by decide +kernel) ?_
  exact Go_ret rfl ⟨rfl, rfl⟩
set_option maxRecDepth 20000 in
set_option maxHeartbeats 4000000 in
theorem rx_X8_street (d : Nat)  : pm_Rt pm_P (d + 3) 97 (hp0) [.ref 0] (hp0) (some (.int 0)) := by
  refine Rt_of aiX8_street (Nat.le_of_ble_eq_true rfl) ?_
  refine Go_st rfl rfl ?_
  refine Go_st rfl rfl ?_
  refine Go_call rfl (rx_X2_readTape_3 d) (chkV rfl rfl rfl rfl rfl rfl) ?_
  refine Go_st rfl rfl ?_
  refine Go_st rfl rfl ?_
  refine Go_st rfl rfl ?_
  refine Go_sm rfl rfl (sm_f rfl) ?_
  refine Go_st rfl rfl ?_
  refine Go_st rfl rfl ?_
  refine Go_st rfl rfl ?_
  refine Go_st rfl rfl ?_
  refine Go_ifT (by decide +kernel) ?_
  refine Go_st rfl rfl ?_
  refine Go_st rfl rfl ?_
  refine Go_st rfl rfl ?_
  refine Go_st rfl rfl ?_
  refine Go_st rfl rfl ?_
  refine Go_call rfl (rx_X5_take_15_4 (d + 1)) (chkV rfl rfl rfl rfl rfl rfl) ?_
  refine Go_st rfl rfl ?_
  refine Go_st rfl rfl ?_
  refine Go_st rfl rfl ?_
  exact Go_ret rfl ⟨_, rfl, rfl⟩
set_option maxRecDepth 20000 in
set_option maxHeartbeats 4000000 in
theorem rm_X9_tells_0_0 (c : Nat → pm_E) (d : Nat)  : pm_Rt pm_P (d + 1) 206 (hpm c) [.ref 77, .int 0, .int 0] (hpm c) none := by
  refine Rt_of aiX9_tells (Nat.le_of_ble_eq_true rfl) ?_
  refine Go_st rfl rfl ?_
  refine Go_st rfl rfl ?_
  refine Go_st rfl rfl ?_
  refine Go_st rfl rfl ?_
  refine Go_bin (v := 24) rfl (by decide +kernel) ?_
  refine Go_st rfl rfl ?_
  refine Go_iast0 rfl rfl (by decide +kernel) ?_
  exact Go_ret rfl ⟨rfl, rfl⟩
set_option maxRecDepth 20000 in
set_option maxHeartbeats 4000000 in
theorem rm_X9_tells_1_0 (c : Nat → pm_E) (d : Nat)  : pm_Rt pm_P (d + 1) 206 (hpm c) [.ref 77, .int 1, .int 0] (hpm c) none := by
  refine Rt_of aiX9_tells (Nat.le_of_ble_eq_true rfl) ?_
  refine Go_st rfl rfl ?_
  refine Go_st rfl rfl ?_
  refine Go_st rfl rfl ?_
  refine Go_st rfl rfl ?_
  refine Go_bin (v := 25) rfl (by decide +kernel) ?_
  refine Go_st rfl rfl ?_
  refine Go_iast0 rfl rfl (by decide +kernel) ?_
  exact Go_ret rfl ⟨rfl, rfl⟩
set_option maxRecDepth 20000 in
set_option maxHeartbeats 4000000 in
theorem rm_X9_tells_2_0 (c : Nat → pm_E) (d : Nat)  : pm_Rt pm_P (d + 1) 206 (hpm c) [.ref 77, .int 2, .int 0] (hpm c) none := by
  refine Rt_of aiX9_tells (Nat.le_of_ble_eq_true rfl) ?_
  refine Go_st rfl rfl ?_
  refine Go_st rfl rfl ?_
  refine Go_st rfl rfl ?_
  refine Go_st rfl rfl ?_
  refine Go_bin (v := 26) rfl (by decide +kernel) ?_
  refine Go_st rfl rfl ?_
  refine Go_iast0 rfl rfl (by decide +kernel) ?_
  exact Go_ret rfl ⟨rfl, rfl⟩
set_option maxRecDepth 20000 in
set_option maxHeartbeats 4000000 in
theorem rm_X9_tells_3_0 (c : Nat → pm_E) (d : Nat)  : pm_Rt pm_P (d + 1) 206 (hpm c) [.ref 77, .int 3, .int 0] (hpm c) none := by
  refine Rt_of aiX9_tells (Nat.le_of_ble_eq_true rfl) ?_
  refine Go_st rfl rfl ?_
  refine Go_st rfl rfl ?_
  refine Go_st rfl rfl ?_
  refine Go_st rfl rfl ?_
  refine Go_bin (v := 27) rfl (by decide +kernel) ?_
  refine Go_st rfl rfl ?_
  refine Go_iast0 rfl rfl (by decide +kernel) ?_
  exact Go_ret rfl ⟨rfl, rfl⟩
set_option maxRecDepth 20000 in
set_option maxHeartbeats 4000000 in
theorem rm_X9_tells_4_0 (c : Nat → pm_E) (d : Nat)  : pm_Rt pm_P (d + 1) 206 (hpm c) [.ref 77, .int 4, .int 0] (hpm c) none := by
  refine Rt_of aiX9_tells (Nat.le_of_ble_eq_true rfl) ?_
  refine Go_st rfl rfl ?_
  refine Go_st rfl rfl ?_
  refine Go_st rfl rfl ?_
  refine Go_st rfl rfl ?_
  refine Go_bin (v := 28) rfl (by decide +kernel) ?_
  refine Go_st rfl rfl ?_
  refine Go_iast0 rfl rfl (by decide +kernel) ?_
  exact Go_ret rfl ⟨rfl, rfl⟩
set_option maxRecDepth 20000 in
set_option maxHeartbeats 4000000 in
theorem rm_X9_tells_5_0 (c : Nat → pm_E) (d : Nat)  : pm_Rt pm_P (d + 1) 206 (hpm c) [.ref 77, .int 5, .int 0] (hpm c) none := by
  refine Rt_of aiX9_tells (Nat.le_of_ble_eq_true rfl) ?_
  refine Go_st rfl rfl ?_
  refine Go_st rfl rfl ?_
  refine Go_st rfl rfl ?_
  refine Go_st rfl rfl ?_
  refine Go_bin (v := 29) rfl (by decide +kernel) ?_
  refine Go_st rfl rfl ?_
  refine Go_iast0 rfl rfl (by decide +kernel) ?_
  exact Go_ret rfl ⟨rfl, rfl⟩
set_option maxRecDepth 20000 in
set_option maxHeartbeats 4000000 in
theorem rm_X9_clears (c : Nat → pm_E) (d : Nat)  : pm_Rt pm_P (d + 2) 130 (hpm c) [.ref 77] (hpm c) none := by
  refine Rt_of aiX9_clears (Nat.le_of_ble_eq_true rfl) ?_
  refine Go_st rfl rfl ?_
  refine Go_st rfl rfl ?_
  refine Go_st rfl rfl ?_
  refine Go_st rfl rfl ?_
  refine Go_iast0 rfl rfl (by decide +kernel) ?_
  refine Go_st rfl rfl ?_
  refine Go_st rfl rfl ?_
  refine Go_st rfl rfl ?_
  refine Go_st rfl rfl ?_
  refine Go_st rfl rfl ?_
  refine Go_ifF (by decide +kernel) ?_
  refine Go_st rfl rfl ?_
  refine Go_st rfl rfl ?_
  refine Go_st rfl rfl ?_
  refine Go_call rfl (rm_X9_tells_0_0 c d) (chkV rfl rfl rfl rfl rfl rfl) ?_
  refine Go_incL (v := 1) (lv' := [(1, .int 1), (0, .ref 77)]) rfl rfl (by decide +kernel) rfl ?_
  refine Go_st rfl rfl ?_
  refine Go_st rfl rfl ?_
  refine Go_st rfl rfl ?_
  refine Go_st rfl rfl ?_
  refine Go_ifF (by decide +kernel) ?_
  refine Go_st rfl rfl ?_
  refine Go_st rfl rfl ?_
  refine Go_st rfl rfl ?_
  refine Go_call rfl (rm_X9_tells_1_0 c d) (chkV rfl rfl rfl rfl rfl rfl) ?_
  refine Go_incL (v := 2) (lv' := [(1, .int 2), (0, .ref 77)]) rfl rfl (by decide +kernel) rfl ?_
  refine Go_st rfl rfl ?_
  refine Go_st rfl rfl ?_
  refine Go_st rfl rfl ?_
  refine Go_st rfl rfl ?_
  refine Go_ifF (by decide +kernel) ?_
  refine Go_st rfl rfl ?_
  refine Go_st rfl rfl ?_
  refine Go_st rfl rfl ?_
  refine Go_call rfl (rm_X9_tells_2_0 c d) (chkV rfl rfl rfl rfl rfl rfl) ?_
  refine Go_incL (v := 3) (lv' := [(1, .int 3), (0, .ref 77)]) rfl rfl (by decide +kernel) rfl ?_
  refine Go_st rfl rfl ?_
  refine Go_st rfl rfl ?_
  refine Go_st rfl rfl ?_
  refine Go_st rfl rfl ?_
  refine Go_ifF (by decide +kernel) ?_
  refine Go_st rfl rfl ?_
  refine Go_st rfl rfl ?_
  refine Go_st rfl rfl ?_
  refine Go_call rfl (rm_X9_tells_3_0 c d) (chkV rfl rfl rfl rfl rfl rfl) ?_
  refine Go_incL (v := 4) (lv' := [(1, .int 4), (0, .ref 77)]) rfl rfl (by decide +kernel) rfl ?_
  refine Go_st rfl rfl ?_
  refine Go_st rfl rfl ?_
  refine Go_st rfl rfl ?_
  refine Go_st rfl rfl ?_
  refine Go_ifF (by decide +kernel) ?_
  refine Go_st rfl rfl ?_
  refine Go_st rfl rfl ?_
  refine Go_st rfl rfl ?_
  refine Go_call rfl (rm_X9_tells_4_0 c d) (chkV rfl rfl rfl rfl rfl rfl) ?_
  refine Go_incL (v := 5) (lv' := [(1, .int 5), (0, .ref 77)]) rfl rfl (by decide +kernel) rfl ?_
  refine Go_st rfl rfl ?_
  refine Go_st rfl rfl ?_
  refine Go_st rfl rfl ?_
  refine Go_st rfl rfl ?_
  refine Go_ifF (by decide +kernel) ?_
  refine Go_st rfl rfl ?_
  refine Go_st rfl rfl ?_
  refine Go_st rfl rfl ?_
  refine Go_call rfl (rm_X9_tells_5_0 c d) (chkV rfl rfl rfl rfl rfl rfl) ?_
  refine Go_incL (v := 6) (lv' := [(1, .int 6), (0, .ref 77)]) rfl rfl (by decide +kernel) rfl ?_
  refine Go_st rfl rfl ?_
  refine Go_st rfl rfl ?_
  refine Go_st rfl rfl ?_
  refine Go_st rfl rfl ?_
  refine Go_ifT (by decide +kernel) ?_
  exact Go_ret rfl ⟨rfl, rfl⟩
set_option maxRecDepth 20000 in
set_option maxHeartbeats 4000000 in
theorem rm_X9_isByte_0_32_32_b (c : Nat → pm_E) (d : Nat)  : pm_Rt pm_P (d + 1) 154 (hpb c) [.ref 77, .int 0, .int 32, .int 32] (hpb c) (some (.int 0)) := by
  refine Rt_of aiX9_isByte (Nat.le_of_ble_eq_true rfl) ?_
  refine Go_st rfl rfl ?_
  refine Go_st rfl rfl ?_
  refine Go_st rfl rfl ?_
  refine Go_st rfl rfl ?_
  refine Go_ifT (by decide +kernel) ?_
  refine Go_st rfl rfl ?_
  exact Go_ret rfl ⟨_, rfl, by decide, rfl⟩
set_option maxRecDepth 20000 in
set_option maxHeartbeats 4000000 in
theorem rm_X9_isByte_0_10_10_b (c : Nat → pm_E) (d : Nat)  : pm_Rt pm_P (d + 1) 154 (hpb c) [.ref 77, .int 0, .int 10, .int 10] (hpb c) (some (.int 0)) := by
  refine Rt_of aiX9_isByte (Nat.le_of_ble_eq_true rfl) ?_
  refine Go_st rfl rfl ?_
  refine Go_st rfl rfl ?_
  refine Go_st rfl rfl ?_
  refine Go_st rfl rfl ?_
  refine Go_ifT (by decide +kernel) ?_
  refine Go_st rfl rfl ?_
  exact Go_ret rfl ⟨_, rfl, by decide, rfl⟩
