/-! runs on a fresh object (written by gen_auto.py) -/
def hpb (c : Nat → pm_E) : pm_H := (hpm c).set 77 (.inr (9, [.int 0, .ref 78, .ref 79, .ref 80, .ref 81, .ref 82, .int 0, .int 0, .int 0, .int 0, .int 0, .long 0, .int 0, .int (-1), .int 0, .int (-1), .ref 83, .ref 84, .ref 85, .ref 86, .ref 87, .ref 88, .int 0, .int 0, .ref 89, .ref 90, .ref 91, .int 0, .ref 92, .ref 93, .ref 94, .ref 95, .ref 96, .ref 97, .ref 98, .int 0, .int 0, .ref 99, .ref 100, .int 0, .ref 101, .int 0, .int 0, .int 0, .ref 102]))
set_option maxRecDepth 20000 in
set_option maxHeartbeats 4000000 in
theorem rx_X5_clear_4 (d : Nat)  : pm_Rt pm_P (d + 1) 8 (hp0) [.ref 4] (hp0) none := by
  refine Rt_of aiX5_clear (Nat.le_of_ble_eq_true rfl) ?_
  refine Go_st rfl rfl ?_
  refine Go_st rfl rfl ?_
  refine Go_sm rfl rfl (sm_f rfl) ?_
  refine Go_st rfl rfl ?_
  refine Go_st rfl rfl ?_
  refine Go_sm rfl rfl (sm_f rfl) ?_
  refine Go_st rfl rfl ?_
  refine Go_st rfl rfl ?_
  refine Go_sm rfl rfl (sm_f rfl) ?_
  refine Go_st rfl rfl ?_
  refine Go_st rfl rfl ?_
  refine Go_sm rfl rfl (sm_f rfl) ?_
  refine Go_st rfl rfl ?_
  refine Go_st rfl rfl ?_
  refine Go_sm rfl rfl (sm_f rfl) ?_
  refine Go_st rfl rfl ?_
  refine Go_st rfl rfl ?_
  refine Go_sm rfl rfl (sm_f rfl) ?_
  refine Go_st rfl rfl ?_
  refine Go_st rfl rfl ?_
  refine Go_sm rfl rfl (sm_f rfl) ?_
  exact Go_ret rfl ⟨rfl, rfl⟩
set_option maxRecDepth 20000 in
set_option maxHeartbeats 4000000 in
theorem rx_X2_readToken_3 (d : Nat)  : pm_Rt pm_P (d + 1) 4 (hp0) [.ref 3] (hp0) none := by
  refine Rt_of aiX2_readToken (Nat.le_of_ble_eq_true rfl) ?_
  refine Go_st rfl rfl ?_
  refine Go_st rfl rfl ?_
  refine Go_st rfl rfl ?_
  refine Go_st rfl rfl ?_
  refine Go_st rfl rfl ?_
  refine Go_st rfl rfl ?_
  refine Go_ifT (by decide +kernel) ?_
  refine Go_st rfl rfl ?_
  refine Go_st rfl rfl ?_
  refine Go_st rfl rfl ?_
  refine Go_sm rfl rfl (sm_f rfl) ?_
  refine Go_st rfl rfl ?_
  refine Go_st rfl rfl ?_
  refine Go_st rfl rfl ?_
  refine Go_st rfl rfl ?_
  refine Go_st rfl rfl ?_
  refine Go_st rfl rfl ?_
  refine Go_ifF (by decide +kernel) ?_
  refine Go_st rfl rfl ?_
  refine Go_st rfl rfl ?_
  refine Go_sm rfl rfl (sm_f rfl) ?_
  refine Go_st rfl rfl ?_
  exact Go_ret rfl ⟨rfl, rfl⟩
set_option maxRecDepth 20000 in
set_option maxHeartbeats 4000000 in
theorem rx_X2_readTape_3 (d : Nat)  : pm_Rt pm_P (d + 2) 3 (hp0) [.ref 3] (hp0) none := by
  refine Rt_of aiX2_readTape (Nat.le_of_ble_eq_true rfl) ?_
  refine Go_st rfl rfl ?_
  refine Go_st rfl rfl ?_
  refine Go_call rfl (rx_X5_clear_4 d) (chkV rfl rfl rfl rfl rfl rfl) ?_
  refine Go_st rfl rfl ?_
  refine Go_st rfl rfl ?_
  refine Go_sm rfl rfl (sm_f rfl) ?_
  refine Go_st rfl rfl ?_
  refine Go_st rfl rfl ?_
  refine Go_sm rfl rfl (sm_f rfl) ?_
  refine Go_st rfl rfl ?_
  refine Go_st rfl rfl ?_
  refine Go_sm rfl rfl (sm_f rfl) ?_
  refine Go_st rfl rfl ?_
  refine Go_call rfl (rx_X2_readToken_3 d) (chkV rfl rfl rfl rfl rfl rfl) ?_
  refine Go_st rfl rfl ?_
  refine Go_st rfl rfl ?_
  refine Go_st rfl rfl ?_
  refine Go_st rfl rfl ?_
  refine Go_st rfl rfl ?_
  refine Go_ifF (by decide +kernel) ?_
  refine Go_st rfl rfl ?_
  refine Go_st rfl rfl ?_
  refine Go_st rfl rfl ?_
  refine Go_ifT (by decide +kernel) ?_
  exact Go_ret rfl ⟨rfl, rfl⟩
set_option maxRecDepth 20000 in
set_option maxHeartbeats 4000000 in
theorem rx_X5_take_15_4 (d : Nat)  : pm_Rt pm_P (d + 1) 10 (hp0) [.ref 15, .ref 4] (hp0) none := by
  refine Rt_of aiX5_take (Nat.le_of_ble_eq_true rfl) ?_
  refine Go_st rfl rfl ?_
  refine Go_st rfl rfl ?_
  refine Go_st rfl rfl ?_
  refine Go_sm rfl rfl (sm_f rfl) ?_
  refine Go_st rfl rfl ?_
  refine Go_st rfl rfl ?_
  refine Go_st rfl rfl ?_
  refine Go_sm rfl rfl (sm_f rfl) ?_
  refine Go_st rfl rfl ?_
  refine Go_st rfl rfl ?_
  refine Go_st rfl rfl ?_
  refine Go_sm rfl rfl (sm_f rfl) ?_
  refine Go_st rfl rfl ?_
  refine Go_st rfl rfl ?_
  refine Go_st rfl rfl ?_
  refine Go_sm rfl rfl (sm_f rfl) ?_
  refine Go_st rfl rfl ?_
  refine Go_st rfl rfl ?_
  refine Go_st rfl rfl ?_
  refine Go_sm rfl rfl (sm_f rfl) ?_
  refine Go_st rfl rfl ?_
  refine Go_st rfl rfl ?_
  refine Go_st rfl rfl ?_
  refine Go_sm rfl rfl (sm_f rfl) ?_
  refine Go_st rfl rfl ?_
  refine Go_st rfl rfl ?_
  refine Go_st rfl rfl ?_
  refine Go_sm rfl rfl (sm_f rfl) ?_
  refine Go_st rfl rfl ?_
  refine Go_st rfl rfl ?_
  refine Go_st rfl rfl ?_
  refine Go_st rfl rfl ?_
  refine Go_st rfl rfl ?_
  refine Go_ifF (by decide +kernel) ?_
  refine Go_st rfl rfl ?_
  refine Go_st rfl rfl ?_
  refine Go_st rfl rfl ?_
  refine Go_st rfl rfl ?_
  refine Go_st rfl rfl ?_
  refine Go_st rfl rfl ?_
  refine Go_iald (v := 0) rfl rfl (by decide +kernel) (by decide +kernel) ?_
  refine Go_iast0 rfl rfl (by decide +kernel) ?_
  refine Go_st rfl rfl ?_
  refine Go_st rfl rfl ?_
  refine Go_st rfl rfl ?_
  refine Go_st rfl rfl ?_
  refine Go_st rfl rfl ?_
  refine Go_st rfl rfl ?_
  refine Go_iald (v := 0) rfl rfl (by decide +kernel) (by decide +kernel) ?_
  refine Go_iast0 rfl rfl (by decide +kernel) ?_
  refine Go_st rfl rfl ?_
  refine Go_st rfl rfl ?_
  refine Go_st rfl rfl ?_
  refine Go_st rfl rfl ?_
  refine Go_st rfl rfl ?_
  refine Go_st rfl rfl ?_
  refine Go_iald (v := 0) rfl rfl (by decide +kernel) (by decide +kernel) ?_
  refine Go_iast0 rfl rfl (by decide +kernel) ?_
  refine Go_st rfl rfl ?_
  refine Go_st rfl rfl ?_
  refine Go_st rfl rfl ?_
  refine Go_st rfl rfl ?_
  refine Go_st rfl rfl ?_
  refine Go_st rfl rfl ?_
  refine Go_iald (v := 0) rfl rfl (by decide +kernel) (by decide +kernel) ?_
  refine Go_iast0 rfl rfl (by decide +kernel) ?_
  refine Go_st rfl rfl ?_
  refine Go_st rfl rfl ?_
  refine Go_st rfl rfl ?_
  refine Go_st rfl rfl ?_
  refine Go_st rfl rfl ?_
  refine Go_st rfl rfl ?_
  refine Go_iald (v := 0) rfl rfl (by decide +kernel) (by decide +kernel) ?_
  refine Go_iast0 rfl rfl (by decide +kernel) ?_
  refine Go_inc (v := 1) rfl rfl (by decide +kernel) ?_
  refine Go_st rfl rfl ?_
  refine Go_st rfl rfl ?_
  refine Go_st rfl rfl ?_
  refine Go_st rfl rfl ?_
  refine Go_ifF (by decide +kernel) ?_
  refine Go_st rfl rfl ?_
  refine Go_st rfl rfl ?_
  refine Go_st rfl rfl ?_
  refine Go_st rfl rfl ?_
  refine Go_st rfl rfl ?_
  refine Go_st rfl rfl ?_
  refine Go_iald (v := 0) rfl rfl (by decide +kernel) (by decide +kernel) ?_
  refine Go_iast0 rfl rfl (by decide +kernel) ?_
  refine Go_st rfl rfl ?_
  refine Go_st rfl rfl ?_
  refine Go_st rfl rfl ?_
  refine Go_st rfl rfl ?_
  refine Go_st rfl rfl ?_
  refine Go_st rfl rfl ?_
  refine Go_iald (v := 0) rfl rfl (by decide +kernel) (by decide +kernel) ?_
  refine Go_iast0 rfl rfl (by decide +kernel) ?_
  refine Go_st rfl rfl ?_
  refine Go_st rfl rfl ?_
  refine Go_st rfl rfl ?_
  refine Go_st rfl rfl ?_
  refine Go_st rfl rfl ?_
  refine Go_st rfl rfl ?_
  refine Go_iald (v := 0) rfl rfl (by decide +kernel) (by decide +kernel) ?_
  refine Go_iast0 rfl rfl (by decide +kernel) ?_
  refine Go_st rfl rfl ?_
  refine Go_st rfl rfl ?_
  refine Go_st rfl rfl ?_
  refine Go_st rfl rfl ?_
  refine Go_st rfl rfl ?_
  refine Go_st rfl rfl ?_
  refine Go_iald (v := 0) rfl rfl (by decide +kernel) (by decide +kernel) ?_
  refine Go_iast0 rfl rfl (by decide +kernel) ?_
  refine Go_st rfl rfl ?_
  refine Go_st rfl rfl ?_
  refine Go_st rfl rfl ?_
  refine Go_st rfl rfl ?_
  refine Go_st rfl rfl ?_
  refine Go_st rfl rfl ?_
  refine Go_iald (v := 0) rfl rfl (by decide +kernel) (by decide +kernel) ?_
  refine Go_iast0 rfl rfl (by decide +kernel) ?_
  refine Go_inc (v := 2) rfl rfl (by decide +kernel) ?_
  refine Go_st rfl rfl ?_
  refine Go_st rfl rfl ?_
  refine Go_st rfl rfl ?_
  refine Go_st rfl rfl ?_
  refine Go_ifF (by decide +kernel) ?_
  refine Go_st rfl rfl ?_
  refine Go_st rfl rfl ?_
  refine Go_st rfl rfl ?_
  refine Go_st rfl rfl ?_
  refine Go_st rfl rfl ?_
  refine Go_st rfl rfl ?_
  refine Go_iald (v := 0) rfl rfl (by decide +kernel) (by decide +kernel) ?_
  refine Go_iast0 rfl rfl (by decide +kernel) ?_
  refine Go_st rfl rfl ?_
  refine Go_st rfl rfl ?_
  refine Go_st rfl rfl ?_
  refine Go_st rfl rfl ?_
  refine Go_st rfl rfl ?_
  refine Go_st rfl rfl ?_
  refine Go_iald (v := 0) rfl rfl (by decide +kernel) (by decide +kernel) ?_
  refine Go_iast0 rfl rfl (by decide +kernel) ?_
  refine Go_st rfl rfl ?_
  refine Go_st rfl rfl ?_
  refine Go_st rfl rfl ?_
  refine Go_st rfl rfl ?_
  refine Go_st rfl rfl ?_
  refine Go_st rfl rfl ?_
  refine Go_iald (v := 0) rfl rfl (by decide +kernel) (by decide +kernel) ?_
  refine Go_iast0 rfl rfl (by decide +kernel) ?_
  refine Go_st rfl rfl ?_
  refine Go_st rfl rfl ?_
  refine Go_st rfl rfl ?_
  refine Go_st rfl rfl ?_
  refine Go_st rfl rfl ?_
  refine Go_st rfl rfl ?_
  refine Go_iald (v := 0) rfl rfl (by decide +kernel) (by decide +kernel) ?_
  refine Go_iast0 rfl rfl (by decide +kernel) ?_
  refine Go_st rfl rfl ?_
  refine Go_st rfl rfl ?_
  refine Go_st rfl rfl ?_
  refine Go_st rfl rfl ?_
  refine Go_st rfl rfl ?_
  refine Go_st rfl rfl ?_
  refine Go_iald (v := 0) rfl rfl (by decide +kernel) (by decide +kernel) ?_
  refine Go_iast0 rfl rfl (by decide +kernel) ?_
  refine Go_inc (v := 3) rfl rfl (by decide +kernel) ?_
  refine Go_st rfl rfl ?_
  refine Go_st rfl rfl ?_
  refine Go_st rfl rfl ?_
  refine Go_st rfl rfl ?_
  refine Go_ifF (by decide +kernel) ?_
  refine Go_st rfl rfl ?_
  refine Go_st rfl rfl ?_
  refine Go_st rfl rfl ?_
  refine Go_st rfl rfl ?_
  refine Go_st rfl rfl ?_
  refine Go_st rfl rfl ?_
  refine Go_iald (v := 0) rfl rfl (by decide +kernel) (by decide +kernel) ?_
  refine Go_iast0 rfl rfl (by decide +kernel) ?_
  refine Go_st rfl rfl ?_
  refine Go_st rfl rfl ?_
  refine Go_st rfl rfl ?_
  refine Go_st rfl rfl ?_
  refine Go_st rfl rfl ?_
  refine Go_st rfl rfl ?_
  refine Go_iald (v := 0) rfl rfl (by decide +kernel) (by decide +kernel) ?_
  refine Go_iast0 rfl rfl (by decide +kernel) ?_
  refine Go_st rfl rfl ?_
  refine Go_st rfl rfl ?_
  refine Go_st rfl rfl ?_
  refine Go_st rfl rfl ?_
  refine Go_st rfl rfl ?_
  refine Go_st rfl rfl ?_
  refine Go_iald (v := 0) rfl rfl (by decide +kernel) (by decide +kernel) ?_
  refine Go_iast0 rfl rfl (by decide +kernel) ?_
  refine Go_st rfl rfl ?_
  refine Go_st rfl rfl ?_
  refine Go_st rfl rfl ?_
  refine Go_st rfl rfl ?_
  refine Go_st rfl rfl ?_
  refine Go_st rfl rfl ?_
  refine Go_iald (v := 0) rfl rfl (by decide +kernel) (by decide +kernel) ?_
  refine Go_iast0 rfl rfl (by decide +kernel) ?_
  refine Go_st rfl rfl ?_
  refine Go_st rfl rfl ?_
  refine Go_st rfl rfl ?_
  refine Go_st rfl rfl ?_
  refine Go_st rfl rfl ?_
  refine Go_st rfl rfl ?_
  refine Go_iald (v := 0) rfl rfl (by decide +kernel) (by decide +kernel) ?_
  refine Go_iast0 rfl rfl (by decide +kernel) ?_
  refine Go_inc (v := 4) rfl rfl (by decide +kernel) ?_
  refine Go_st rfl rfl ?_
  refine Go_st rfl rfl ?_
  refine Go_st rfl rfl ?_
  refine Go_st rfl rfl ?_
  refine Go_ifF (by decide +kernel) ?_
  refine Go_st rfl rfl ?_
  refine Go_st rfl rfl ?_
  refine Go_st rfl rfl ?_
  refine Go_st rfl rfl ?_
  refine Go_st rfl rfl ?_
  refine Go_st rfl rfl ?_
  refine Go_iald (v := 0) rfl rfl (by decide +kernel) (by decide +kernel) ?_
  refine Go_iast0 rfl rfl (by decide +kernel) ?_
  refine Go_st rfl rfl ?_
  refine Go_st rfl rfl ?_
  refine Go_st rfl rfl ?_
  refine Go_st rfl rfl ?_
  refine Go_st rfl rfl ?_
  refine Go_st rfl rfl ?_
  refine Go_iald (v := 0) rfl rfl (by decide +kernel) (by decide +kernel) ?_
  refine Go_iast0 rfl rfl (by decide +kernel) ?_
  refine Go_st rfl rfl ?_
  refine Go_st rfl rfl ?_
  refine Go_st rfl rfl ?_
  refine Go_st rfl rfl ?_
  refine Go_st rfl rfl ?_
  refine Go_st rfl rfl ?_
  refine Go_iald (v := 0) rfl rfl (by decide +kernel) (by decide +kernel) ?_
  refine Go_iast0 rfl rfl (by decide +kernel) ?_
  refine Go_st rfl rfl ?_
  refine Go_st rfl rfl ?_
  refine Go_st rfl rfl ?_
  refine Go_st rfl rfl ?_
  refine Go_st rfl rfl ?_
  refine Go_st rfl rfl ?_
  refine Go_iald (v := 0) rfl rfl (by decide +kernel) (by decide +kernel) ?_
  refine Go_iast0 rfl rfl (by decide +kernel) ?_
  refine Go_st rfl rfl ?_
  refine Go_st rfl rfl ?_
  refine Go_st rfl rfl ?_
  refine Go_st rfl rfl ?_
  refine Go_st rfl rfl ?_
  refine Go_st rfl rfl ?_
  refine Go_iald (v := 0) rfl rfl (by decide +kernel) (by decide +kernel) ?_
  refine Go_iast0 rfl rfl (by decide +kernel) ?_
  refine Go_inc (v := 5) rfl rfl (by decide +kernel) ?_
  refine Go_st rfl rfl ?_
  refine Go_st rfl rfl ?_
  refine Go_st rfl rfl ?_
  refine Go_st rfl rfl ?_
  refine Go_ifF (by decide +kernel) ?_
  refine Go_st rfl rfl ?_
  refine Go_st rfl rfl ?_
  refine Go_st rfl rfl ?_
  refine Go_st rfl rfl ?_
  refine Go_st rfl rfl ?_
  refine Go_st rfl rfl ?_
  refine Go_iald (v := 0) rfl rfl (by decide +kernel) (by decide +kernel) ?_
  refine Go_iast0 rfl rfl (by decide +kernel) ?_
  refine Go_st rfl rfl ?_
  refine Go_st rfl rfl ?_
  refine Go_st rfl rfl ?_
  refine Go_st rfl rfl ?_
  refine Go_st rfl rfl ?_
  refine Go_st rfl rfl ?_
  refine Go_iald (v := 0) rfl rfl (by decide +kernel) (by decide +kernel) ?_
  refine Go_iast0 rfl rfl (by decide +kernel) ?_
  refine Go_st rfl rfl ?_
  refine Go_st rfl rfl ?_
  refine Go_st rfl rfl ?_
  refine Go_st rfl rfl ?_
  refine Go_st rfl rfl ?_
  refine Go_st rfl rfl ?_
  refine Go_iald (v := 0) rfl rfl (by decide +kernel) (by decide +kernel) ?_
  refine Go_iast0 rfl rfl (by decide +kernel) ?_
  refine Go_st rfl rfl ?_
  refine Go_st rfl rfl ?_
  refine Go_st rfl rfl ?_
  refine Go_st rfl rfl ?_
  refine Go_st rfl rfl ?_
  refine Go_st rfl rfl ?_
  refine Go_iald (v := 0) rfl rfl (by decide +kernel) (by decide +kernel) ?_
  refine Go_iast0 rfl rfl (by decide +kernel) ?_
  refine Go_st rfl rfl ?_
  refine Go_st rfl rfl ?_
  refine Go_st rfl rfl ?_
  refine Go_st rfl rfl ?_
  refine Go_st rfl rfl ?_
  refine Go_st rfl rfl ?_
  refine Go_iald (v := 0) rfl rfl (by decide +kernel) (by decide +kernel) ?_
  refine Go_iast0 rfl rfl (by decide +kernel) ?_
  refine Go_inc (v := 6) rfl rfl (by decide +kernel) ?_
  refine Go_st rfl rfl ?_
  refine Go_st rfl rfl ?_
  refine Go_st rfl rfl ?_
  refine Go_st rfl rfl ?_
  refine Go_ifF (by decide +kernel) ?_
  refine Go_st rfl rfl ?_
  refine Go_st rfl rfl ?_
  refine Go_st rfl rfl ?_
  refine Go_st rfl rfl ?_
  refine Go_st rfl rfl ?_
  refine Go_st rfl rfl ?_
  refine Go_iald (v := 0) rfl rfl (by decide +kernel) (by decide +kernel) ?_
  refine Go_iast0 rfl rfl (by decide +kernel) ?_
  refine Go_st rfl rfl ?_
  refine Go_st rfl rfl ?_
  refine Go_st rfl rfl ?_
  refine Go_st rfl rfl ?_
  refine Go_st rfl rfl ?_
  refine Go_st rfl rfl ?_
  refine Go_iald (v := 0) rfl rfl (by decide +kernel) (by decide +kernel) ?_
  refine Go_iast0 rfl rfl (by decide +kernel) ?_
  refine Go_st rfl rfl ?_
  refine Go_st rfl rfl ?_
  refine Go_st rfl rfl ?_
  refine Go_st rfl rfl ?_
  refine Go_st rfl rfl ?_
  refine Go_st rfl rfl ?_
  refine Go_iald (v := 0) rfl rfl (by decide +kernel) (by decide +kernel) ?_
  refine Go_iast0 rfl rfl (by decide +kernel) ?_
  refine Go_st rfl rfl ?_
  refine Go_st rfl rfl ?_
  refine Go_st rfl rfl ?_
  refine Go_st rfl rfl ?_
  refine Go_st rfl rfl ?_
  refine Go_st rfl rfl ?_
  refine Go_iald (v := 0) rfl rfl (by decide +kernel) (by decide +kernel) ?_
  refine Go_iast0 rfl rfl (by decide +kernel) ?_
  refine Go_st rfl rfl ?_
  refine Go_st rfl rfl ?_
  refine Go_st rfl rfl ?_
  refine Go_st rfl rfl ?_
  refine Go_st rfl rfl ?_
  refine Go_st rfl rfl ?_
  refine Go_iald (v := 0) rfl rfl (by decide +kernel) (by decide +kernel) ?_
  refine Go_iast0 rfl rfl (by decide +kernel) ?_
  refine Go_inc (v := 7) rfl rfl (by decide +kernel) ?_
  refine Go_st rfl rfl ?_
  refine Go_st rfl rfl ?_
  refine Go_st rfl rfl ?_
  refine Go_st rfl rfl ?_
  refine Go_ifF (by decide +kernel) ?_
  refine Go_st rfl rfl ?_
  refine Go_st rfl rfl ?_
  refine Go_st rfl rfl ?_
  refine Go_st rfl rfl ?_
  refine Go_st rfl rfl ?_
  refine Go_st rfl rfl ?_
  refine Go_iald (v := 0) rfl rfl (by decide +kernel) (by decide +kernel) ?_
  refine Go_iast0 rfl rfl (by decide +kernel) ?_
  refine Go_st rfl rfl ?_
  refine Go_st rfl rfl ?_
  refine Go_st rfl rfl ?_
  refine Go_st rfl rfl ?_
  refine Go_st rfl rfl ?_
  refine Go_st rfl rfl ?_
  refine Go_iald (v := 0) rfl rfl (by decide +kernel) (by decide +kernel) ?_
  refine Go_iast0 rfl rfl (by decide +kernel) ?_
  refine Go_st rfl rfl ?_
  refine Go_st rfl rfl ?_
  refine Go_st rfl rfl ?_
  refine Go_st rfl rfl ?_
  refine Go_st rfl rfl ?_
  refine Go_st rfl rfl ?_
  refine Go_iald (v := 0) rfl rfl (by decide +kernel) (by decide +kernel) ?_
  refine Go_iast0 rfl rfl (by decide +kernel) ?_
  refine Go_st rfl rfl ?_
  refine Go_st rfl rfl ?_
  refine Go_st rfl rfl ?_
  refine Go_st rfl rfl ?_
  refine Go_st rfl rfl ?_
  refine Go_st rfl rfl ?_
  refine Go_iald (v := 0) rfl rfl (by decide +kernel) (by decide +kernel) ?_
  refine Go_iast0 rfl rfl (by decide +kernel) ?_
  refine Go_st rfl rfl ?_
  refine Go_st rfl rfl ?_
  refine Go_st rfl rfl ?_
  refine Go_st rfl rfl ?_
  refine Go_st rfl rfl ?_
  refine Go_st rfl rfl ?_
  refine Go_iald (v := 0) rfl rfl (by decide +kernel) (by decide +kernel) ?_
  refine Go_iast0 rfl rfl (by decide +kernel) ?_
  refine Go_inc (v := 8) rfl rfl (by decide +kernel) ?_
  refine Go_st rfl rfl ?_
  refine Go_st rfl rfl ?_
  refine Go_st rfl rfl ?_
  refine Go_st rfl rfl ?_
  refine Go_ifT (by decide +kernel) ?_
  refine Go_st rfl rfl ?_
  refine Go_st rfl rfl ?_
  refine Go_st rfl rfl ?_
  refine Go_st rfl rfl ?_
  refine Go_st rfl rfl ?_
  refine Go_ifF (by decide +kernel) ?_
  refine Go_st rfl rfl ?_
  refine Go_st rfl rfl ?_
  refine Go_st rfl rfl ?_
  refine Go_st rfl rfl ?_
  refine Go_st rfl rfl ?_
  refine Go_st rfl rfl ?_
  refine Go_iald (v := 0) rfl rfl (by decide +kernel) (by decide +kernel) ?_
  refine Go_iast0 rfl rfl (by decide +kernel) ?_
  refine Go_st rfl rfl ?_
  refine Go_st rfl rfl ?_
  refine Go_st rfl rfl ?_
  refine Go_st rfl rfl ?_
  refine Go_st rfl rfl ?_
  refine Go_st rfl rfl ?_
  refine Go_iald (v := 0) rfl rfl (by decide +kernel) (by decide +kernel) ?_
  refine Go_iast0 rfl rfl (by decide +kernel) ?_
  refine Go_st rfl rfl ?_
  refine Go_st rfl rfl ?_
  refine Go_st rfl rfl ?_
  refine Go_st rfl rfl ?_
  refine Go_st rfl rfl ?_
  refine Go_st rfl rfl ?_
  refine Go_zald (v := 0) rfl rfl (by decide +kernel) (by decide +kernel) ?_
  refine Go_zast0 rfl rfl (by decide +kernel) ?_
  refine Go_inc (v := 1) rfl rfl (by decide +kernel) ?_
  refine Go_st rfl rfl ?_
  refine Go_st rfl rfl ?_
  refine Go_st rfl rfl ?_
  refine Go_st rfl rfl ?_
  refine Go_ifF (by decide +kernel) ?_
  refine Go_st rfl rfl ?_
  refine Go_st rfl rfl ?_
  refine Go_st rfl rfl ?_
  refine Go_st rfl rfl ?_
  refine Go_st rfl rfl ?_
  refine Go_st rfl rfl ?_
  refine Go_iald (v := 0) rfl rfl (by decide +kernel) (by decide +kernel) ?_
  refine Go_iast0 rfl rfl (by decide +kernel) ?_
  refine Go_st rfl rfl ?_
  refine Go_st rfl rfl ?_
  refine Go_st rfl rfl ?_
  refine Go_st rfl rfl ?_
  refine Go_st rfl rfl ?_
  refine Go_st rfl rfl ?_
  refine Go_iald (v := 0) rfl rfl (by decide +kernel) (by decide +kernel) ?_
  refine Go_iast0 rfl rfl (by decide +kernel) ?_
  refine Go_st rfl rfl ?_
  refine Go_st rfl rfl ?_
  refine Go_st rfl rfl ?_
  refine Go_st rfl rfl ?_
  refine Go_st rfl rfl ?_
  refine Go_st rfl rfl ?_
  refine Go_zald (v := 0) rfl rfl (by decide +kernel) (by decide +kernel) ?_
  refine Go_zast0 rfl rfl (by decide +kernel) ?_
  refine Go_inc (v := 2) rfl rfl (by decide +kernel) ?_
  refine Go_st rfl rfl ?_
  refine Go_st rfl rfl ?_
  refine Go_st rfl rfl ?_
  refine Go_st rfl rfl ?_
  refine Go_ifF (by decide +kernel) ?_
  refine Go_st rfl rfl ?_
  refine Go_st rfl rfl ?_
  refine Go_st rfl rfl ?_
  refine Go_st rfl rfl ?_
  refine Go_st rfl rfl ?_
  refine Go_st rfl rfl ?_
  refine Go_iald (v := 0) rfl rfl (by decide +kernel) (by decide +kernel) ?_
  refine Go_iast0 rfl rfl (by decide +kernel) ?_
  refine Go_st rfl rfl ?_
  refine Go_st rfl rfl ?_
  refine Go_st rfl rfl ?_
  refine Go_st rfl rfl ?_
  refine Go_st rfl rfl ?_
  refine Go_st rfl rfl ?_
  refine Go_iald (v := 0) rfl rfl (by decide +kernel) (by decide +kernel) ?_
  refine Go_iast0 rfl rfl (by decide +kernel) ?_
  refine Go_st rfl rfl ?_
  refine Go_st rfl rfl ?_
  refine Go_st rfl rfl ?_
  refine Go_st rfl rfl ?_
  refine Go_st rfl rfl ?_
  refine Go_st rfl rfl ?_
  refine Go_zald (v := 0) rfl rfl (by decide +kernel) (by decide +kernel) ?_
  refine Go_zast0 rfl rfl (by decide +kernel) ?_
  refine Go_inc (v := 3) rfl rfl (by decide +kernel) ?_
  refine Go_st rfl rfl ?_
  refine Go_st rfl rfl ?_
  refine Go_st rfl rfl ?_
  refine Go_st rfl rfl ?_
  refine Go_ifF (by decide +kernel) ?_
  refine Go_st rfl rfl ?_
  refine Go_st rfl rfl ?_
  refine Go_st rfl rfl ?_
  refine Go_st rfl rfl ?_
  refine Go_st rfl rfl ?_
  refine Go_st rfl rfl ?_
  refine Go_iald (v := 0) rfl rfl (by decide +kernel) (by decide +kernel) ?_
  refine Go_iast0 rfl rfl (by decide +kernel) ?_
  refine Go_st rfl rfl ?_
  refine Go_st rfl rfl ?_
  refine Go_st rfl rfl ?_
  refine Go_st rfl rfl ?_
  refine Go_st rfl rfl ?_
  refine Go_st rfl rfl ?_
  refine Go_iald (v := 0) rfl rfl (by decide +kernel) (by decide +kernel) ?_
  refine Go_iast0 rfl rfl (by decide +kernel) ?_
  refine Go_st rfl rfl ?_
  refine Go_st rfl rfl ?_
  refine Go_st rfl rfl ?_
  refine Go_st rfl rfl ?_
  refine Go_st rfl rfl ?_
  refine Go_st rfl rfl ?_
  refine Go_zald (v := 0) rfl rfl (by decide +kernel) (by decide +kernel) ?_
  refine Go_zast0 rfl rfl (by decide +kernel) ?_
  refine Go_inc (v := 4) rfl rfl (by decide +kernel) ?_
  refine Go_st rfl rfl ?_
  refine Go_st rfl rfl ?_
  refine Go_st rfl rfl ?_
  refine Go_st rfl rfl ?_
  refine Go_ifF (by decide +kernel) ?_
  refine Go_st rfl rfl ?_
  refine Go_st rfl rfl ?_
  refine Go_st rfl rfl ?_
  refine Go_st rfl rfl ?_
  refine Go_st rfl rfl ?_
  refine Go_st rfl rfl ?_
  refine Go_iald (v := 0) rfl rfl (by decide +kernel) (by decide +kernel) ?_
  refine Go_iast0 rfl rfl (by decide +kernel) ?_
  refine Go_st rfl rfl ?_
  refine Go_st rfl rfl ?_
  refine Go_st rfl rfl ?_
  refine Go_st rfl rfl ?_
  refine Go_st rfl rfl ?_
  refine Go_st rfl rfl ?_
  refine Go_iald (v := 0) rfl rfl (by decide +kernel) (by decide +kernel) ?_
  refine Go_iast0 rfl rfl (by decide +kernel) ?_
  refine Go_st rfl rfl ?_
  refine Go_st rfl rfl ?_
  refine Go_st rfl rfl ?_
  refine Go_st rfl rfl ?_
  refine Go_st rfl rfl ?_
  refine Go_st rfl rfl ?_
  refine Go_zald (v := 0) rfl rfl (by decide +kernel) (by decide +kernel) ?_
  refine Go_zast0 rfl rfl (by decide +kernel) ?_
  refine Go_inc (v := 5) rfl rfl (by decide +kernel) ?_
  refine Go_st rfl rfl ?_
  refine Go_st rfl rfl ?_
  refine Go_st rfl rfl ?_
  refine Go_st rfl rfl ?_
  refine Go_ifF (by decide +kernel) ?_
  refine Go_st rfl rfl ?_
  refine Go_st rfl rfl ?_
  refine Go_st rfl rfl ?_
  refine Go_st rfl rfl ?_
  refine Go_st rfl rfl ?_
  refine Go_st rfl rfl ?_
  refine Go_iald (v := 0) rfl rfl (by decide +kernel) (by decide +kernel) ?_
  refine Go_iast0 rfl rfl (by decide +kernel) ?_
  refine Go_st rfl rfl ?_
  refine Go_st rfl rfl ?_
  refine Go_st rfl rfl ?_
  refine Go_st rfl rfl ?_
  refine Go_st rfl rfl ?_
  refine Go_st rfl rfl ?_
  refine Go_iald (v := 0) rfl rfl (by decide +kernel) (by decide +kernel) ?_
  refine Go_iast0 rfl rfl (by decide +kernel) ?_
  refine Go_st rfl rfl ?_
  refine Go_st rfl rfl ?_
  refine Go_st rfl rfl ?_
  refine Go_st rfl rfl ?_
  refine Go_st rfl rfl ?_
  refine Go_st rfl rfl ?_
  refine Go_zald (v := 0) rfl rfl (by decide +kernel) (by decide +kernel) ?_
  refine Go_zast0 rfl rfl (by decide +kernel) ?_
  refine Go_inc (v := 6) rfl rfl (by decide +kernel) ?_
  refine Go_st rfl rfl ?_
  refine Go_st rfl rfl ?_
  refine Go_st rfl rfl ?_
  refine Go_st rfl rfl ?_
  refine Go_ifF (by decide +kernel) ?_
  refine Go_st rfl rfl ?_
  refine Go_st rfl rfl ?_
  refine Go_st rfl rfl ?_
  refine Go_st rfl rfl ?_
  refine Go_st rfl rfl ?_
  refine Go_st rfl rfl ?_
  refine Go_iald (v := 0) rfl rfl (by decide +kernel) (by decide +kernel) ?_
  refine Go_iast0 rfl rfl (by decide +kernel) ?_
  refine Go_st rfl rfl ?_
  refine Go_st rfl rfl ?_
  refine Go_st rfl rfl ?_
  refine Go_st rfl rfl ?_
  refine Go_st rfl rfl ?_
  refine Go_st rfl rfl ?_
  refine Go_iald (v := 0) rfl rfl (by decide +kernel) (by decide +kernel) ?_
  refine Go_iast0 rfl rfl (by decide +kernel) ?_
  refine Go_st rfl rfl ?_
  refine Go_st rfl rfl ?_
  refine Go_st rfl rfl ?_
  refine Go_st rfl rfl ?_
  refine Go_st rfl rfl ?_
  refine Go_st rfl rfl ?_
  refine Go_zald (v := 0) rfl rfl (by decide +kernel) (by decide +kernel) ?_
  refine Go_zast0 rfl rfl (by decide +kernel) ?_
  refine Go_inc (v := 7) rfl rfl (by decide +kernel) ?_
  refine Go_st rfl rfl ?_
  refine Go_st rfl rfl ?_
  refine Go_st rfl rfl ?_
  refine Go_st rfl rfl ?_
  refine Go_ifF (by decide +kernel) ?_
  refine Go_st rfl rfl ?_
  refine Go_st rfl rfl ?_
  refine Go_st rfl rfl ?_
  refine Go_st rfl rfl ?_
  refine Go_st rfl rfl ?_
  refine Go_st rfl rfl ?_
  refine Go_iald (v := 0) rfl rfl (by decide +kernel) (by decide +kernel) ?_
  refine Go_iast0 rfl rfl (by decide +kernel) ?_
  refine Go_st rfl rfl ?_
  refine Go_st rfl rfl ?_
  refine Go_st rfl rfl ?_
  refine Go_st rfl rfl ?_
  refine Go_st rfl rfl ?_
  refine Go_st rfl rfl ?_
  refine Go_iald (v := 0) rfl rfl (by decide +kernel) (by decide +kernel) ?_
  refine Go_iast0 rfl rfl (by decide +kernel) ?_
  refine Go_st rfl rfl ?_
  refine Go_st rfl rfl ?_
  refine Go_st rfl rfl ?_
  refine Go_st rfl rfl ?_
  refine Go_st rfl rfl ?_
  refine Go_st rfl rfl ?_
  refine Go_zald (v := 0) rfl rfl (by decide +kernel) (by decide +kernel) ?_
  refine Go_zast0 rfl rfl (by decide +kernel) ?_
  refine Go_inc (v := 8) rfl rfl (by decide +kernel) ?_
  refine Go_st rfl rfl ?_
  refine Go_st rfl rfl ?_
  refine Go_st rfl rfl ?_
  refine Go_st rfl rfl ?_
  refine Go_ifF (by decide +kernel) ?_
  refine Go_st rfl rfl ?_
  refine Go_st rfl rfl ?_
  refine Go_st rfl rfl ?_
  refine Go_st rfl rfl ?_
  refine Go_st rfl rfl ?_
  refine Go_st rfl rfl ?_
  refine Go_iald (v := 0) rfl rfl (by decide +kernel) (by decide +kernel) ?_
  refine Go_iast0 rfl rfl (by decide +kernel) ?_
  refine Go_st rfl rfl ?_
  refine Go_st rfl rfl ?_
  refine Go_st rfl rfl ?_
  refine Go_st rfl rfl ?_
  refine Go_st rfl rfl ?_
  refine Go_st rfl rfl ?_
  refine Go_iald (v := 0) rfl rfl (by decide +kernel) (by decide +kernel) ?_
  refine Go_iast0 rfl rfl (by decide +kernel) ?_
  refine Go_st rfl rfl ?_
  refine Go_st rfl rfl ?_
  refine Go_st rfl rfl ?_
  refine Go_st rfl rfl ?_
  refine Go_st rfl rfl ?_
  refine Go_st rfl rfl ?_
  refine Go_zald (v := 0) rfl rfl (by decide +kernel) (by decide +kernel) ?_
  refine Go_zast0 rfl rfl (by decide +kernel) ?_
  refine Go_inc (v := 9) rfl rfl (by decide +kernel) ?_
  refine Go_st rfl rfl ?_
  refine Go_st rfl rfl ?_
  refine Go_st rfl rfl ?_
  refine Go_st rfl rfl ?_
  refine Go_ifF (by decide +kernel) ?_
  refine Go_st rfl rfl ?_
  refine Go_st rfl rfl ?_
  refine Go_st rfl rfl ?_
  refine Go_st rfl rfl ?_
  refine Go_st rfl rfl ?_
  refine Go_st rfl rfl ?_
  refine Go_iald (v := 0) rfl rfl (by decide +kernel) (by decide +kernel) ?_
  refine Go_iast0 rfl rfl (by decide +kernel) ?_
  refine Go_st rfl rfl ?_
  refine Go_st rfl rfl ?_
  refine Go_st rfl rfl ?_
  refine Go_st rfl rfl ?_
  refine Go_st rfl rfl ?_
  refine Go_st rfl rfl ?_
  refine Go_iald (v := 0) rfl rfl (by decide +kernel) (by decide +kernel) ?_
  refine Go_iast0 rfl rfl (by decide +kernel) ?_
  refine Go_st rfl rfl ?_
  refine Go_st rfl rfl ?_
  refine Go_st rfl rfl ?_
  refine Go_st rfl rfl ?_
  refine Go_st rfl rfl ?_
  refine Go_st rfl rfl ?_
  refine Go_zald (v := 0) rfl rfl (by decide +kernel) (by decide +kernel) ?_
  refine Go_zast0 rfl rfl (by decide +kernel) ?_
  refine Go_inc (v := 10) rfl rfl (by decide +kernel) ?_
  refine Go_st rfl rfl ?_
  refine Go_st rfl rfl ?_
  refine Go_st rfl rfl ?_
  refine Go_st rfl rfl ?_
  refine Go_ifF (by decide +kernel) ?_
  refine Go_st rfl rfl ?_
  refine Go_st rfl rfl ?_
  refine Go_st rfl rfl ?_
  refine Go_st rfl rfl ?_
  refine Go_st rfl rfl ?_
  refine Go_st rfl rfl ?_
  refine Go_iald (v := 0) rfl rfl (by decide +kernel) (by decide +kernel) ?_
  refine Go_iast0 rfl rfl (by decide +kernel) ?_
  refine Go_st rfl rfl ?_
  refine Go_st rfl rfl ?_
  refine Go_st rfl rfl ?_
  refine Go_st rfl rfl ?_
  refine Go_st rfl rfl ?_
  refine Go_st rfl rfl ?_
  refine Go_iald (v := 0) rfl rfl (by decide +kernel) (by decide +kernel) ?_
  refine Go_iast0 rfl rfl (by decide +kernel) ?_
  refine Go_st rfl rfl ?_
  refine Go_st rfl rfl ?_
  refine Go_st rfl rfl ?_
  refine Go_st rfl rfl ?_
  refine Go_st rfl rfl ?_
  refine Go_st rfl rfl ?_
  refine Go_zald (v := 0) rfl rfl (by decide +kernel) (by decide +kernel) ?_
  refine Go_zast0 rfl rfl (by decide +kernel) ?_
  refine Go_inc (v := 11) rfl rfl (by decide +kernel) ?_
  refine Go_st rfl rfl ?_
  refine Go_st rfl rfl ?_
  refine Go_st rfl rfl ?_
  refine Go_st rfl rfl ?_
  refine Go_ifF (by decide +kernel) ?_
  refine Go_st rfl rfl ?_
  refine Go_st rfl rfl ?_
  refine Go_st rfl rfl ?_
  refine Go_st rfl rfl ?_
  refine Go_st rfl rfl ?_
  refine Go_st rfl rfl ?_
  refine Go_iald (v := 0) rfl rfl (by decide +kernel) (by decide +kernel) ?_
  refine Go_iast0 rfl rfl (by decide +kernel) ?_
  refine Go_st rfl rfl ?_
  refine Go_st rfl rfl ?_
  refine Go_st rfl rfl ?_
  refine Go_st rfl rfl ?_
  refine Go_st rfl rfl ?_
  refine Go_st rfl rfl ?_
  refine Go_iald (v := 0) rfl rfl (by decide +kernel) (by decide +kernel) ?_
  refine Go_iast0 rfl rfl (by decide +kernel) ?_
  refine Go_st rfl rfl ?_
  refine Go_st rfl rfl ?_
  refine Go_st rfl rfl ?_
  refine Go_st rfl rfl ?_
  refine Go_st rfl rfl ?_
  refine Go_st rfl rfl ?_
  refine Go_zald (v := 0) rfl rfl (by decide +kernel) (by decide +kernel) ?_
  refine Go_zast0 rfl rfl (by decide +kernel) ?_
  refine Go_inc (v := 12) rfl rfl (by decide +kernel) ?_
  refine Go_st rfl rfl ?_
  refine Go_st rfl rfl ?_
  refine Go_st rfl rfl ?_
  refine Go_st rfl rfl ?_
  refine Go_ifF (by decide +kernel) ?_
  refine Go_st rfl rfl ?_
  refine Go_st rfl rfl ?_
  refine Go_st rfl rfl ?_
  refine Go_st rfl rfl ?_
  refine Go_st rfl rfl ?_
  refine Go_st rfl rfl ?_
  refine Go_iald (v := 0) rfl rfl (by decide +kernel) (by decide +kernel) ?_
  refine Go_iast0 rfl rfl (by decide +kernel) ?_
  refine Go_st rfl rfl ?_
  refine Go_st rfl rfl ?_
  refine Go_st rfl rfl ?_
  refine Go_st rfl rfl ?_
  refine Go_st rfl rfl ?_
  refine Go_st rfl rfl ?_
  refine Go_iald (v := 0) rfl rfl (by decide +kernel) (by decide +kernel) ?_
  refine Go_iast0 rfl rfl (by decide +kernel) ?_
  refine Go_st rfl rfl ?_
  refine Go_st rfl rfl ?_
  refine Go_st rfl rfl ?_
  refine Go_st rfl rfl ?_
  refine Go_st rfl rfl ?_
  refine Go_st rfl rfl ?_
  refine Go_zald (v := 0) rfl rfl (by decide +kernel) (by decide +kernel) ?_
  refine Go_zast0 rfl rfl (by decide +kernel) ?_
  refine Go_inc (v := 13) rfl rfl (by decide +kernel) ?_
  refine Go_st rfl rfl ?_
  refine Go_st rfl rfl ?_
  refine Go_st rfl rfl ?_
  refine Go_st rfl rfl ?_
  refine Go_ifF (by decide +kernel) ?_
  refine Go_st rfl rfl ?_
  refine Go_st rfl rfl ?_
  refine Go_st rfl rfl ?_
  refine Go_st rfl rfl ?_
  refine Go_st rfl rfl ?_
  refine Go_st rfl rfl ?_
  refine Go_iald (v := 0) rfl rfl (by decide +kernel) (by decide +kernel) ?_
  refine Go_iast0 rfl rfl (by decide +kernel) ?_
  refine Go_st rfl rfl ?_
  refine Go_st rfl rfl ?_
  refine Go_st rfl rfl ?_
  refine Go_st rfl rfl ?_
  refine Go_st rfl rfl ?_
  refine Go_st rfl rfl ?_
  refine Go_iald (v := 0) rfl rfl (by decide +kernel) (by decide +kernel) ?_
  refine Go_iast0 rfl rfl (by decide +kernel) ?_
  refine Go_st rfl rfl ?_
  refine Go_st rfl rfl ?_
  refine Go_st rfl rfl ?_
  refine Go_st rfl rfl ?_
  refine Go_st rfl rfl ?_
  refine Go_st rfl rfl ?_
  refine Go_zald (v := 0) rfl rfl (by decide +kernel) (by decide +kernel) ?_
  refine Go_zast0 rfl rfl (by decide +kernel) ?_
  refine Go_inc (v := 14) rfl rfl (by decide +kernel) ?_
  refine Go_st rfl rfl ?_
  refine Go_st rfl rfl ?_
  refine Go_st rfl rfl ?_
  refine Go_st rfl rfl ?_
  refine Go_ifF (by decide +kernel) ?_
  refine Go_st rfl rfl ?_
  refine Go_st rfl rfl ?_
  refine Go_st rfl rfl ?_
  refine Go_st rfl rfl ?_
  refine Go_st rfl rfl ?_
  refine Go_st rfl rfl ?_
  refine Go_iald (v := 0) rfl rfl (by decide +kernel) (by decide +kernel) ?_
  refine Go_iast0 rfl rfl (by decide +kernel) ?_
  refine Go_st rfl rfl ?_
  refine Go_st rfl rfl ?_
  refine Go_st rfl rfl ?_
  refine Go_st rfl rfl ?_
  refine Go_st rfl rfl ?_
  refine Go_st rfl rfl ?_
  refine Go_iald (v := 0) rfl rfl (by decide +kernel) (by decide +kernel) ?_
  refine Go_iast0 rfl rfl (by decide +kernel) ?_
  refine Go_st rfl rfl ?_
  refine Go_st rfl rfl ?_
  refine Go_st rfl rfl ?_
  refine Go_st rfl rfl ?_
  refine Go_st rfl rfl ?_
  refine Go_st rfl rfl ?_
  refine Go_zald (v := 0) rfl rfl (by decide +kernel) (by decide +kernel) ?_
  refine Go_zast0 rfl rfl (by decide +kernel) ?_
  refine Go_inc (v := 15) rfl rfl (by decide +kernel) ?_
  refine Go_st rfl rfl ?_
  refine Go_st rfl rfl ?_
  refine Go_st rfl rfl ?_
  refine Go_st rfl rfl ?_
  refine Go_ifF (by decide +kernel) ?_
  refine Go_st rfl rfl ?_
  refine Go_st rfl rfl ?_
  refine Go_st rfl rfl ?_
  refine Go_st rfl rfl ?_
  refine Go_st rfl rfl ?_
  refine Go_st rfl rfl ?_
  refine Go_iald (v := 0) rfl rfl (by decide +kernel) (by decide +kernel) ?_
  refine Go_iast0 rfl rfl (by decide +kernel) ?_
  refine Go_st rfl rfl ?_
  refine Go_st rfl rfl ?_
  refine Go_st rfl rfl ?_
  refine Go_st rfl rfl ?_
  refine Go_st rfl rfl ?_
  refine Go_st rfl rfl ?_
  refine Go_iald (v := 0) rfl rfl (by decide +kernel) (by decide +kernel) ?_
  refine Go_iast0 rfl rfl (by decide +kernel) ?_
  refine Go_st rfl rfl ?_
  refine Go_st rfl rfl ?_
  refine Go_st rfl rfl ?_
  refine Go_st rfl rfl ?_
  refine Go_st rfl rfl ?_
  refine Go_st rfl rfl ?_
  refine Go_zald (v := 0) rfl rfl (by decide +kernel) (by decide +kernel) ?_
  refine Go_zast0 rfl rfl (by decide +kernel) ?_
  refine Go_inc (v := 16) rfl rfl (by decide +kernel) ?_
  refine Go_st rfl rfl ?_
  refine Go_st rfl rfl ?_
  refine Go_st rfl rfl ?_
  refine Go_st rfl rfl ?_
  refine Go_ifF (by decide +kernel) ?_
  refine Go_st rfl rfl ?_
  refine Go_st rfl rfl ?_
  refine Go_st rfl rfl ?_
  refine Go_st rfl rfl ?_
  refine Go_st rfl rfl ?_
  refine Go_st rfl rfl ?_
  refine Go_iald (v := 0) rfl rfl (by decide +kernel) (by decide +kernel) ?_
  refine Go_iast0 rfl rfl (by decide +kernel) ?_
  refine Go_st rfl rfl ?_
  refine Go_st rfl rfl ?_
  refine Go_st rfl rfl ?_
  refine Go_st rfl rfl ?_
  refine Go_st rfl rfl ?_
  refine Go_st rfl rfl ?_
  refine Go_iald (v := 0) rfl rfl (by decide +kernel) (by decide +kernel) ?_
  refine Go_iast0 rfl rfl (by decide +kernel) ?_
  refine Go_st rfl rfl ?_
  refine Go_st rfl rfl ?_
  refine Go_st rfl rfl ?_
  refine Go_st rfl rfl ?_
  refine Go_st rfl rfl ?_
  refine Go_st rfl rfl ?_
  refine Go_zald (v := 0) rfl rfl (by decide +kernel) (by decide +kernel) ?_
  refine Go_zast0 rfl rfl (by decide +kernel) ?_
  refine Go_inc (v := 17) rfl rfl (by decide +kernel) ?_
  refine Go_st rfl rfl ?_
  refine Go_st rfl rfl ?_
  refine Go_st rfl rfl ?_
  refine Go_st rfl rfl ?_
  refine Go_ifF (by decide +kernel) ?_
  refine Go_st rfl rfl ?_
  refine Go_st rfl rfl ?_
  refine Go_st rfl rfl ?_
  refine Go_st rfl rfl ?_
  refine Go_st rfl rfl ?_
  refine Go_st rfl rfl ?_
  refine Go_iald (v := 0) rfl rfl (by decide +kernel) (by decide +kernel) ?_
  refine Go_iast0 rfl rfl (by decide +kernel) ?_
  refine Go_st rfl rfl ?_
  refine Go_st rfl rfl ?_
  refine Go_st rfl rfl ?_
  refine Go_st rfl rfl ?_
  refine Go_st rfl rfl ?_
  refine Go_st rfl rfl ?_
  refine Go_iald (v := 0) rfl rfl (by decide +kernel) (by decide +kernel) ?_
  refine Go_iast0 rfl rfl (by decide +kernel) ?_
  refine Go_st rfl rfl ?_
  refine Go_st rfl rfl ?_
  refine Go_st rfl rfl ?_
  refine Go_st rfl rfl ?_
  refine Go_st rfl rfl ?_
  refine Go_st rfl rfl ?_
  refine Go_zald (v := 0) rfl rfl (by decide +kernel) (by decide +kernel) ?_
  refine Go_zast0 rfl rfl (by decide +kernel) ?_
  refine Go_inc (v := 18) rfl rfl (by decide +kernel) ?_
  refine Go_st rfl rfl ?_
  refine Go_st rfl rfl ?_
  refine Go_st rfl rfl ?_
  refine Go_st rfl rfl ?_
  refine Go_ifF (by decide +kernel) ?_
  refine Go_st rfl rfl ?_
  refine Go_st rfl rfl ?_
  refine Go_st rfl rfl ?_
  refine Go_st rfl rfl ?_
  refine Go_st rfl rfl ?_
  refine Go_st rfl rfl ?_
  refine Go_iald (v := 0) rfl rfl (by decide +kernel) (by decide +kernel) ?_
  refine Go_iast0 rfl rfl (by decide +kernel) ?_
  refine Go_st rfl rfl ?_
  refine Go_st rfl rfl ?_
  refine Go_st rfl rfl ?_
  refine Go_st rfl rfl ?_
  refine Go_st rfl rfl ?_
  refine Go_st rfl rfl ?_
  refine Go_iald (v := 0) rfl rfl (by decide +kernel) (by decide +kernel) ?_
  refine Go_iast0 rfl rfl (by decide +kernel) ?_
  refine Go_st rfl rfl ?_
  refine Go_st rfl rfl ?_
  refine Go_st rfl rfl ?_
  refine Go_st rfl rfl ?_
  refine Go_st rfl rfl ?_
  refine Go_st rfl rfl ?_
  refine Go_zald (v := 0) rfl rfl (by decide +kernel) (by decide +kernel) ?_
  refine Go_zast0 rfl rfl (by decide +kernel) ?_
  refine Go_inc (v := 19) rfl rfl (by decide +kernel) ?_
  refine Go_st rfl rfl ?_
  refine Go_st rfl rfl ?_
  refine Go_st rfl rfl ?_
  refine Go_st rfl rfl ?_
  refine Go_ifF (by decide +kernel) ?_
  refine Go_st rfl rfl ?_
  refine Go_st rfl rfl ?_
  refine Go_st rfl rfl ?_
  refine Go_st rfl rfl ?_
  refine Go_st rfl rfl ?_
  refine Go_st rfl rfl ?_
  refine Go_iald (v := 0) rfl rfl (by decide +kernel) (by decide +kernel) ?_
  refine Go_iast0 rfl rfl (by decide +kernel) ?_
  refine Go_st rfl rfl ?_
  refine Go_st rfl rfl ?_
  refine Go_st rfl rfl ?_
  refine Go_st rfl rfl ?_
  refine Go_st rfl rfl ?_
  refine Go_st rfl rfl ?_
  refine Go_iald (v := 0) rfl rfl (by decide +kernel) (by decide +kernel) ?_
  refine Go_iast0 rfl rfl (by decide +kernel) ?_
  refine Go_st rfl rfl ?_
  refine Go_st rfl rfl ?_
  refine Go_st rfl rfl ?_
  refine Go_st rfl rfl ?_
  refine Go_st rfl rfl ?_
  refine Go_st rfl rfl ?_
  refine Go_zald (v := 0) rfl rfl (by decide +kernel) (by decide +kernel) ?_
  refine Go_zast0 rfl rfl (by decide +kernel) ?_
  refine Go_inc (v := 20) rfl rfl (by decide +kernel) ?_
  refine Go_st rfl rfl ?_
  refine Go_st rfl rfl ?_
  refine Go_st rfl rfl ?_
  refine Go_st rfl rfl ?_
  refine Go_ifT (by decide +kernel) ?_
  exact Go_ret rfl ⟨rfl, rfl⟩
set_option maxRecDepth 20000 in
set_option maxHeartbeats 4000000 in
theorem rx_X8_street (d : Nat)  : pm_Rt pm_P (d + 3) 97 (hp0) [.ref 0] (hp0) (some (.int 0)) := by
  refine Rt_of aiX8_street (Nat.le_of_ble_eq_true rfl) ?_
  refine Go_st rfl rfl ?_
  refine Go_st rfl rfl ?_
  refine Go_call rfl (rx_X2_readTape_3 d) (chkV rfl rfl rfl rfl rfl rfl) ?_
  refine Go_st rfl rfl ?_
  refine Go_st rfl rfl ?_
  refine Go_st rfl rfl ?_
  refine Go_sm rfl rfl (sm_f rfl) ?_
  refine Go_st rfl rfl ?_
  refine Go_st rfl rfl ?_
  refine Go_st rfl rfl ?_
  refine Go_st rfl rfl ?_
  refine Go_ifT (by decide +kernel) ?_
  refine Go_st rfl rfl ?_
  refine Go_st rfl rfl ?_
  refine Go_st rfl rfl ?_
  refine Go_st rfl rfl ?_
  refine Go_st rfl rfl ?_
  refine Go_call rfl (rx_X5_take_15_4 (d + 1)) (chkV rfl rfl rfl rfl rfl rfl) ?_
  refine Go_st rfl rfl ?_
  refine Go_st rfl rfl ?_
  refine Go_st rfl rfl ?_
  exact Go_ret rfl ⟨_, rfl, rfl⟩
set_option maxRecDepth 20000 in
set_option maxHeartbeats 4000000 in
theorem rm_X9_tells_0_0 (c : Nat → pm_E) (d : Nat)  : pm_Rt pm_P (d + 1) 206 (hpm c) [.ref 77, .int 0, .int 0] (hpm c) none := by
  refine Rt_of aiX9_tells (Nat.le_of_ble_eq_true rfl) ?_
  refine Go_st rfl rfl ?_
  refine Go_st rfl rfl ?_
  refine Go_st rfl rfl ?_
  refine Go_st rfl rfl ?_
  refine Go_bin (v := 24) rfl (by decide +kernel) ?_
  refine Go_st rfl rfl ?_
  refine Go_iast0 rfl rfl (by decide +kernel) ?_
  exact Go_ret rfl ⟨rfl, rfl⟩
set_option maxRecDepth 20000 in
set_option maxHeartbeats 4000000 in
theorem rm_X9_tells_1_0 (c : Nat → pm_E) (d : Nat)  : pm_Rt pm_P (d + 1) 206 (hpm c) [.ref 77, .int 1, .int 0] (hpm c) none := by
  refine Rt_of aiX9_tells (Nat.le_of_ble_eq_true rfl) ?_
  refine Go_st rfl rfl ?_
  refine Go_st rfl rfl ?_
  refine Go_st rfl rfl ?_
  refine Go_st rfl rfl ?_
  refine Go_bin (v := 25) rfl (by decide +kernel) ?_
  refine Go_st rfl rfl ?_
  refine Go_iast0 rfl rfl (by decide +kernel) ?_
  exact Go_ret rfl ⟨rfl, rfl⟩
set_option maxRecDepth 20000 in
set_option maxHeartbeats 4000000 in
theorem rm_X9_tells_2_0 (c : Nat → pm_E) (d : Nat)  : pm_Rt pm_P (d + 1) 206 (hpm c) [.ref 77, .int 2, .int 0] (hpm c) none := by
  refine Rt_of aiX9_tells (Nat.le_of_ble_eq_true rfl) ?_
  refine Go_st rfl rfl ?_
  refine Go_st rfl rfl ?_
  refine Go_st rfl rfl ?_
  refine Go_st rfl rfl ?_
  refine Go_bin (v := 26) rfl (by decide +kernel) ?_
  refine Go_st rfl rfl ?_
  refine Go_iast0 rfl rfl (by decide +kernel) ?_
  exact Go_ret rfl ⟨rfl, rfl⟩
set_option maxRecDepth 20000 in
set_option maxHeartbeats 4000000 in
theorem rm_X9_tells_3_0 (c : Nat → pm_E) (d : Nat)  : pm_Rt pm_P (d + 1) 206 (hpm c) [.ref 77, .int 3, .int 0] (hpm c) none := by
  refine Rt_of aiX9_tells (Nat.le_of_ble_eq_true rfl) ?_
  refine Go_st rfl rfl ?_
  refine Go_st rfl rfl ?_
  refine Go_st rfl rfl ?_
  refine Go_st rfl rfl ?_
  refine Go_bin (v := 27) rfl (by decide +kernel) ?_
  refine Go_st rfl rfl ?_
  refine Go_iast0 rfl rfl (by decide +kernel) ?_
  exact Go_ret rfl ⟨rfl, rfl⟩
set_option maxRecDepth 20000 in
set_option maxHeartbeats 4000000 in
theorem rm_X9_tells_4_0 (c : Nat → pm_E) (d : Nat)  : pm_Rt pm_P (d + 1) 206 (hpm c) [.ref 77, .int 4, .int 0] (hpm c) none := by
  refine Rt_of aiX9_tells (Nat.le_of_ble_eq_true rfl) ?_
  refine Go_st rfl rfl ?_
  refine Go_st rfl rfl ?_
  refine Go_st rfl rfl ?_
  refine Go_st rfl rfl ?_
  refine Go_bin (v := 28) rfl (by decide +kernel) ?_
  refine Go_st rfl rfl ?_
  refine Go_iast0 rfl rfl (by decide +kernel) ?_
  exact Go_ret rfl ⟨rfl, rfl⟩
set_option maxRecDepth 20000 in
set_option maxHeartbeats 4000000 in
theorem rm_X9_tells_5_0 (c : Nat → pm_E) (d : Nat)  : pm_Rt pm_P (d + 1) 206 (hpm c) [.ref 77, .int 5, .int 0] (hpm c) none := by
  refine Rt_of aiX9_tells (Nat.le_of_ble_eq_true rfl) ?_
  refine Go_st rfl rfl ?_
  refine Go_st rfl rfl ?_
  refine Go_st rfl rfl ?_
  refine Go_st rfl rfl ?_
  refine Go_bin (v := 29) rfl (by decide +kernel) ?_
  refine Go_st rfl rfl ?_
  refine Go_iast0 rfl rfl (by decide +kernel) ?_
  exact Go_ret rfl ⟨rfl, rfl⟩
set_option maxRecDepth 20000 in
set_option maxHeartbeats 4000000 in
theorem rm_X9_clears (c : Nat → pm_E) (d : Nat)  : pm_Rt pm_P (d + 2) 130 (hpm c) [.ref 77] (hpm c) none := by
  refine Rt_of aiX9_clears (Nat.le_of_ble_eq_true rfl) ?_
  refine Go_st rfl rfl ?_
  refine Go_st rfl rfl ?_
  refine Go_st rfl rfl ?_
  refine Go_st rfl rfl ?_
  refine Go_iast0 rfl rfl (by decide +kernel) ?_
  refine Go_st rfl rfl ?_
  refine Go_st rfl rfl ?_
  refine Go_st rfl rfl ?_
  refine Go_st rfl rfl ?_
  refine Go_st rfl rfl ?_
  refine Go_ifF (by decide +kernel) ?_
  refine Go_st rfl rfl ?_
  refine Go_st rfl rfl ?_
  refine Go_st rfl rfl ?_
  refine Go_call rfl (rm_X9_tells_0_0 c d) (chkV rfl rfl rfl rfl rfl rfl) ?_
  refine Go_inc (v := 1) rfl rfl (by decide +kernel) ?_
  refine Go_st rfl rfl ?_
  refine Go_st rfl rfl ?_
  refine Go_st rfl rfl ?_
  refine Go_st rfl rfl ?_
  refine Go_ifF (by decide +kernel) ?_
  refine Go_st rfl rfl ?_
  refine Go_st rfl rfl ?_
  refine Go_st rfl rfl ?_
  refine Go_call rfl (rm_X9_tells_1_0 c d) (chkV rfl rfl rfl rfl rfl rfl) ?_
  refine Go_inc (v := 2) rfl rfl (by decide +kernel) ?_
  refine Go_st rfl rfl ?_
  refine Go_st rfl rfl ?_
  refine Go_st rfl rfl ?_
  refine Go_st rfl rfl ?_
  refine Go_ifF (by decide +kernel) ?_
  refine Go_st rfl rfl ?_
  refine Go_st rfl rfl ?_
  refine Go_st rfl rfl ?_
  refine Go_call rfl (rm_X9_tells_2_0 c d) (chkV rfl rfl rfl rfl rfl rfl) ?_
  refine Go_inc (v := 3) rfl rfl (by decide +kernel) ?_
  refine Go_st rfl rfl ?_
  refine Go_st rfl rfl ?_
  refine Go_st rfl rfl ?_
  refine Go_st rfl rfl ?_
  refine Go_ifF (by decide +kernel) ?_
  refine Go_st rfl rfl ?_
  refine Go_st rfl rfl ?_
  refine Go_st rfl rfl ?_
  refine Go_call rfl (rm_X9_tells_3_0 c d) (chkV rfl rfl rfl rfl rfl rfl) ?_
  refine Go_inc (v := 4) rfl rfl (by decide +kernel) ?_
  refine Go_st rfl rfl ?_
  refine Go_st rfl rfl ?_
  refine Go_st rfl rfl ?_
  refine Go_st rfl rfl ?_
  refine Go_ifF (by decide +kernel) ?_
  refine Go_st rfl rfl ?_
  refine Go_st rfl rfl ?_
  refine Go_st rfl rfl ?_
  refine Go_call rfl (rm_X9_tells_4_0 c d) (chkV rfl rfl rfl rfl rfl rfl) ?_
  refine Go_inc (v := 5) rfl rfl (by decide +kernel) ?_
  refine Go_st rfl rfl ?_
  refine Go_st rfl rfl ?_
  refine Go_st rfl rfl ?_
  refine Go_st rfl rfl ?_
  refine Go_ifF (by decide +kernel) ?_
  refine Go_st rfl rfl ?_
  refine Go_st rfl rfl ?_
  refine Go_st rfl rfl ?_
  refine Go_call rfl (rm_X9_tells_5_0 c d) (chkV rfl rfl rfl rfl rfl rfl) ?_
  refine Go_inc (v := 6) rfl rfl (by decide +kernel) ?_
  refine Go_st rfl rfl ?_
  refine Go_st rfl rfl ?_
  refine Go_st rfl rfl ?_
  refine Go_st rfl rfl ?_
  refine Go_ifT (by decide +kernel) ?_
  exact Go_ret rfl ⟨rfl, rfl⟩
set_option maxRecDepth 20000 in
set_option maxHeartbeats 4000000 in
theorem rm_X9_isByte_0_32_32_b (c : Nat → pm_E) (d : Nat)  : pm_Rt pm_P (d + 1) 154 (hpb c) [.ref 77, .int 0, .int 32, .int 32] (hpb c) (some (.int 0)) := by
  refine Rt_of aiX9_isByte (Nat.le_of_ble_eq_true rfl) ?_
  refine Go_st rfl rfl ?_
  refine Go_st rfl rfl ?_
  refine Go_st rfl rfl ?_
  refine Go_st rfl rfl ?_
  refine Go_ifT (by decide +kernel) ?_
  refine Go_st rfl rfl ?_
  exact Go_ret rfl ⟨_, rfl, by decide, rfl⟩
set_option maxRecDepth 20000 in
set_option maxHeartbeats 4000000 in
theorem rm_X9_isByte_0_10_10_b (c : Nat → pm_E) (d : Nat)  : pm_Rt pm_P (d + 1) 154 (hpb c) [.ref 77, .int 0, .int 10, .int 10] (hpb c) (some (.int 0)) := by
  refine Rt_of aiX9_isByte (Nat.le_of_ble_eq_true rfl) ?_
  refine Go_st rfl rfl ?_
  refine Go_st rfl rfl ?_
  refine Go_st rfl rfl ?_
  refine Go_st rfl rfl ?_
  refine Go_ifT (by decide +kernel) ?_
  refine Go_st rfl rfl ?_
  exact Go_ret rfl ⟨_, rfl, by decide, rfl⟩
set_option maxRecDepth 20000 in
set_option maxHeartbeats 4000000 in
theorem rm_X9_follows_b (c : Nat → pm_E) (d : Nat)  : pm_Rt pm_P (d + 2) 144 (hpb c) [.ref 77] (hpb c) none := by
  refine Rt_of aiX9_follows (Nat.le_of_ble_eq_true rfl) ?_
  refine Go_st rfl rfl ?_
  refine Go_st rfl rfl ?_
  refine Go_st rfl rfl ?_
  refine Go_st rfl rfl ?_
  refine Go_st rfl rfl ?_
  refine Go_call rfl (rm_X9_isByte_0_32_32_b c d) (chkV rfl rfl rfl rfl rfl rfl) ?_
  refine Go_st rfl rfl ?_
  refine Go_ifF (by decide +kernel) ?_
  refine Go_st rfl rfl ?_
  refine Go_st rfl rfl ?_
  refine Go_st rfl rfl ?_
  refine Go_st rfl rfl ?_
  refine Go_st rfl rfl ?_
  refine Go_call rfl (rm_X9_isByte_0_10_10_b c d) (chkV rfl rfl rfl rfl rfl rfl) ?_
  refine Go_st rfl rfl ?_
  refine Go_ifT (by decide +kernel) ?_
  refine Go_st rfl rfl ?_
  refine Go_st rfl rfl ?_
  refine Go_st rfl rfl ?_
  refine Go_sm rfl rfl (sm_f rfl) ?_
  refine Go_st rfl rfl ?_
  refine Go_st rfl rfl ?_
  refine Go_sm rfl rfl (sm_f rfl) ?_
  refine Go_st rfl rfl ?_
  refine Go_st rfl rfl ?_
  refine Go_sm rfl rfl (sm_f rfl) ?_
  refine Go_st rfl rfl ?_
  refine Go_st rfl rfl ?_
  refine Go_st rfl rfl ?_
  refine Go_st rfl rfl ?_
  refine Go_st rfl rfl ?_
  refine Go_ifF (by decide +kernel) ?_
  refine Go_st rfl rfl ?_
  refine Go_st rfl rfl ?_
  refine Go_sm rfl rfl (sm_f rfl) ?_
  refine Go_st rfl rfl ?_
  exact Go_ret rfl ⟨rfl, rfl⟩
set_option maxRecDepth 20000 in
set_option maxHeartbeats 4000000 in
theorem rm_X9_begins (c : Nat → pm_E) (d : Nat)  : pm_Rt pm_P (d + 3) 119 (hpm c) [.ref 77] (hpb c) none := by
  refine Rt_of aiX9_begins (Nat.le_of_ble_eq_true rfl) ?_
  refine Go_st rfl rfl ?_
  refine Go_st rfl rfl ?_
  refine Go_sm rfl rfl (sm_f rfl) ?_
  refine Go_st rfl rfl ?_
  refine Go_st rfl rfl ?_
  refine Go_st rfl rfl ?_
  refine Go_st rfl rfl ?_
  refine Go_st rfl rfl ?_
  refine Go_sm rfl rfl (sm_f rfl) ?_
  refine Go_st rfl rfl ?_
  refine Go_call rfl (rm_X9_follows_b c d) (chkV rfl rfl rfl rfl rfl rfl) ?_
  exact Go_ret rfl ⟨rfl, rfl⟩
set_option maxRecDepth 20000 in
set_option maxHeartbeats 4000000 in
theorem rm_X9_isGood_b (c : Nat → pm_E) (d : Nat)  : pm_Rt pm_P (d + 1) 156 (hpb c) [.ref 77] (hpb c) (some (.int 1)) := by
  refine Rt_of aiX9_isGood (Nat.le_of_ble_eq_true rfl) ?_
  refine Go_st rfl rfl ?_
  refine Go_st rfl rfl ?_
  refine Go_st rfl rfl ?_
  refine Go_ifF (by decide +kernel) ?_
  refine Go_st rfl rfl ?_
  refine Go_st rfl rfl ?_
  exact Go_ret rfl ⟨_, rfl, by decide, rfl⟩
set_option maxRecDepth 20000 in
set_option maxHeartbeats 4000000 in
theorem rm_X9_isOver_b (c : Nat → pm_E) (d : Nat)  : pm_Rt pm_P (d + 1) 160 (hpb c) [.ref 77] (hpb c) none := by
  refine Rt_of aiX9_isOver (Nat.le_of_ble_eq_true rfl) ?_
  refine Go_st rfl rfl ?_
  refine Go_st rfl rfl ?_
  refine Go_sm rfl rfl (sm_f rfl) ?_
  refine Go_st rfl rfl ?_
  refine Go_st rfl rfl ?_
  refine Go_st rfl rfl ?_
  refine Go_sm rfl rfl (sm_f rfl) ?_
  refine Go_st rfl rfl ?_
  refine Go_st rfl rfl ?_
  refine Go_st rfl rfl ?_
  refine Go_st rfl rfl ?_
  refine Go_ifF (by decide +kernel) ?_
  refine Go_st rfl rfl ?_
  refine Go_st rfl rfl ?_
  refine Go_sm rfl rfl (sm_f rfl) ?_
  exact Go_ret rfl ⟨rfl, rfl⟩
set_option maxRecDepth 20000 in
set_option maxHeartbeats 4000000 in
theorem rm_X9_copyRow_1_4_0_b (c : Nat → pm_E) (d : Nat)  : pm_Rt pm_P (d + 1) 132 (hpb c) [.ref 83, .int 1, .int 4, .int 0] (hpb c) none := by
  refine Rt_of aiX9_copyRow (Nat.le_of_ble_eq_true rfl) ?_
  refine Go_st rfl rfl ?_
  refine Go_st rfl rfl ?_
  refine Go_st rfl rfl ?_
  refine Go_st rfl rfl ?_
  refine Go_st rfl rfl ?_
  refine Go_ifF (by decide +kernel) ?_
  refine Go_st rfl rfl ?_
  refine Go_st rfl rfl ?_
  refine Go_st rfl rfl ?_
  refine Go_bin (v := 0) rfl (by decide +kernel) ?_
  refine Go_st rfl rfl ?_
  refine Go_bin (v := 0) rfl (by decide +kernel) ?_
  refine Go_st rfl rfl ?_
  refine Go_st rfl rfl ?_
  refine Go_st rfl rfl ?_
  refine Go_bin (v := 4) rfl (by decide +kernel) ?_
  refine Go_st rfl rfl ?_
  refine Go_bin (v := 4) rfl (by decide +kernel) ?_
  refine Go_iald (v := 0) rfl rfl (by decide +kernel) (by decide +kernel) ?_
  refine Go_iast0 rfl rfl (by decide +kernel) ?_
  refine Go_inc (v := 1) rfl rfl (by decide +kernel) ?_
  refine Go_st rfl rfl ?_
  refine Go_st rfl rfl ?_
  refine Go_st rfl rfl ?_
  refine Go_st rfl rfl ?_
  refine Go_ifT (by decide +kernel) ?_
  exact Go_ret rfl ⟨rfl, rfl⟩
set_option maxRecDepth 20000 in
set_option maxHeartbeats 4000000 in
theorem rm_X9_copyRow_6_4_0_b (c : Nat → pm_E) (d : Nat)  : pm_Rt pm_P (d + 1) 132 (hpb c) [.ref 84, .int 6, .int 4, .int 0] (hpb c) none := by
  refine Rt_of aiX9_copyRow (Nat.le_of_ble_eq_true rfl) ?_
  refine Go_st rfl rfl ?_
  refine Go_st rfl rfl ?_
  refine Go_st rfl rfl ?_
  refine Go_st rfl rfl ?_
  refine Go_st rfl rfl ?_
  refine Go_ifF (by decide +kernel) ?_
  refine Go_st rfl rfl ?_
  refine Go_st rfl rfl ?_
  refine Go_st rfl rfl ?_
  refine Go_bin (v := 0) rfl (by decide +kernel) ?_
  refine Go_st rfl rfl ?_
  refine Go_bin (v := 0) rfl (by decide +kernel) ?_
  refine Go_st rfl rfl ?_
  refine Go_st rfl rfl ?_
  refine Go_st rfl rfl ?_
  refine Go_bin (v := 24) rfl (by decide +kernel) ?_
  refine Go_st rfl rfl ?_
  refine Go_bin (v := 24) rfl (by decide +kernel) ?_
  refine Go_iald (v := 0) rfl rfl (by decide +kernel) (by decide +kernel) ?_
  refine Go_iast0 rfl rfl (by decide +kernel) ?_
  refine Go_inc (v := 1) rfl rfl (by decide +kernel) ?_
  refine Go_st rfl rfl ?_
  refine Go_st rfl rfl ?_
  refine Go_st rfl rfl ?_
  refine Go_st rfl rfl ?_
  refine Go_ifF (by decide +kernel) ?_
  refine Go_st rfl rfl ?_
  refine Go_st rfl rfl ?_
  refine Go_st rfl rfl ?_
  refine Go_bin (v := 0) rfl (by decide +kernel) ?_
  refine Go_st rfl rfl ?_
  refine Go_bin (v := 1) rfl (by decide +kernel) ?_
  refine Go_st rfl rfl ?_
  refine Go_st rfl rfl ?_
  refine Go_st rfl rfl ?_
  refine Go_bin (v := 24) rfl (by decide +kernel) ?_
  refine Go_st rfl rfl ?_
  refine Go_bin (v := 25) rfl (by decide +kernel) ?_
  refine Go_iald (v := 0) rfl rfl (by decide +kernel) (by decide +kernel) ?_
  refine Go_iast0 rfl rfl (by decide +kernel) ?_
  refine Go_inc (v := 2) rfl rfl (by decide +kernel) ?_
  refine Go_st rfl rfl ?_
  refine Go_st rfl rfl ?_
  refine Go_st rfl rfl ?_
  refine Go_st rfl rfl ?_
  refine Go_ifF (by decide +kernel) ?_
  refine Go_st rfl rfl ?_
  refine Go_st rfl rfl ?_
  refine Go_st rfl rfl ?_
  refine Go_bin (v := 0) rfl (by decide +kernel) ?_
  refine Go_st rfl rfl ?_
  refine Go_bin (v := 2) rfl (by decide +kernel) ?_
  refine Go_st rfl rfl ?_
  refine Go_st rfl rfl ?_
  refine Go_st rfl rfl ?_
  refine Go_bin (v := 24) rfl (by decide +kernel) ?_
  refine Go_st rfl rfl ?_
  refine Go_bin (v := 26) rfl (by decide +kernel) ?_
  refine Go_iald (v := 0) rfl rfl (by decide +kernel) (by decide +kernel) ?_
  refine Go_iast0 rfl rfl (by decide +kernel) ?_
  refine Go_inc (v := 3) rfl rfl (by decide +kernel) ?_
  refine Go_st rfl rfl ?_
  refine Go_st rfl rfl ?_
  refine Go_st rfl rfl ?_
  refine Go_st rfl rfl ?_
  refine Go_ifF (by decide +kernel) ?_
  refine Go_st rfl rfl ?_
  refine Go_st rfl rfl ?_
  refine Go_st rfl rfl ?_
  refine Go_bin (v := 0) rfl (by decide +kernel) ?_
  refine Go_st rfl rfl ?_
  refine Go_bin (v := 3) rfl (by decide +kernel) ?_
  refine Go_st rfl rfl ?_
  refine Go_st rfl rfl ?_
  refine Go_st rfl rfl ?_
  refine Go_bin (v := 24) rfl (by decide +kernel) ?_
  refine Go_st rfl rfl ?_
  refine Go_bin (v := 27) rfl (by decide +kernel) ?_
  refine Go_iald (v := 0) rfl rfl (by decide +kernel) (by decide +kernel) ?_
  refine Go_iast0 rfl rfl (by decide +kernel) ?_
  refine Go_inc (v := 4) rfl rfl (by decide +kernel) ?_
  refine Go_st rfl rfl ?_
  refine Go_st rfl rfl ?_
  refine Go_st rfl rfl ?_
  refine Go_st rfl rfl ?_
  refine Go_ifF (by decide +kernel) ?_
  refine Go_st rfl rfl ?_
  refine Go_st rfl rfl ?_
  refine Go_st rfl rfl ?_
  refine Go_bin (v := 0) rfl (by decide +kernel) ?_
  refine Go_st rfl rfl ?_
  refine Go_bin (v := 4) rfl (by decide +kernel) ?_
  refine Go_st rfl rfl ?_
  refine Go_st rfl rfl ?_
  refine Go_st rfl rfl ?_
  refine Go_bin (v := 24) rfl (by decide +kernel) ?_
  refine Go_st rfl rfl ?_
  refine Go_bin (v := 28) rfl (by decide +kernel) ?_
  refine Go_iald (v := 0) rfl rfl (by decide +kernel) (by decide +kernel) ?_
  refine Go_iast0 rfl rfl (by decide +kernel) ?_
  refine Go_inc (v := 5) rfl rfl (by decide +kernel) ?_
  refine Go_st rfl rfl ?_
  refine Go_st rfl rfl ?_
  refine Go_st rfl rfl ?_
  refine Go_st rfl rfl ?_
  refine Go_ifF (by decide +kernel) ?_
  refine Go_st rfl rfl ?_
  refine Go_st rfl rfl ?_
  refine Go_st rfl rfl ?_
  refine Go_bin (v := 0) rfl (by decide +kernel) ?_
  refine Go_st rfl rfl ?_
  refine Go_bin (v := 5) rfl (by decide +kernel) ?_
  refine Go_st rfl rfl ?_
  refine Go_st rfl rfl ?_
  refine Go_st rfl rfl ?_
  refine Go_bin (v := 24) rfl (by decide +kernel) ?_
  refine Go_st rfl rfl ?_
  refine Go_bin (v := 29) rfl (by decide +kernel) ?_
  refine Go_iald (v := 0) rfl rfl (by decide +kernel) (by decide +kernel) ?_
  refine Go_iast0 rfl rfl (by decide +kernel) ?_
  refine Go_inc (v := 6) rfl rfl (by decide +kernel) ?_
  refine Go_st rfl rfl ?_
  refine Go_st rfl rfl ?_
  refine Go_st rfl rfl ?_
  refine Go_st rfl rfl ?_
  refine Go_ifT (by decide +kernel) ?_
  exact Go_ret rfl ⟨rfl, rfl⟩
set_option maxRecDepth 20000 in
set_option maxHeartbeats 4000000 in
theorem rm_X9_copyRow_16_4_0_b (c : Nat → pm_E) (d : Nat)  : pm_Rt pm_P (d + 1) 132 (hpb c) [.ref 85, .int 16, .int 4, .int 0] (hpb c) none := by
  refine Rt_of aiX9_copyRow (Nat.le_of_ble_eq_true rfl) ?_
  refine Go_st rfl rfl ?_
  refine Go_st rfl rfl ?_
  refine Go_st rfl rfl ?_
  refine Go_st rfl rfl ?_
  refine Go_st rfl rfl ?_
  refine Go_ifF (by decide +kernel) ?_
  refine Go_st rfl rfl ?_
  refine Go_st rfl rfl ?_
  refine Go_st rfl rfl ?_
  refine Go_bin (v := 0) rfl (by decide +kernel) ?_
  refine Go_st rfl rfl ?_
  refine Go_bin (v := 0) rfl (by decide +kernel) ?_
  refine Go_st rfl rfl ?_
  refine Go_st rfl rfl ?_
  refine Go_st rfl rfl ?_
  refine Go_bin (v := 64) rfl (by decide +kernel) ?_
  refine Go_st rfl rfl ?_
  refine Go_bin (v := 64) rfl (by decide +kernel) ?_
  refine Go_iald (v := 0) rfl rfl (by decide +kernel) (by decide +kernel) ?_
  refine Go_iast0 rfl rfl (by decide +kernel) ?_
  refine Go_inc (v := 1) rfl rfl (by decide +kernel) ?_
  refine Go_st rfl rfl ?_
  refine Go_st rfl rfl ?_
  refine Go_st rfl rfl ?_
  refine Go_st rfl rfl ?_
  refine Go_ifF (by decide +kernel) ?_
  refine Go_st rfl rfl ?_
  refine Go_st rfl rfl ?_
  refine Go_st rfl rfl ?_
  refine Go_bin (v := 0) rfl (by decide +kernel) ?_
  refine Go_st rfl rfl ?_
  refine Go_bin (v := 1) rfl (by decide +kernel) ?_
  refine Go_st rfl rfl ?_
  refine Go_st rfl rfl ?_
  refine Go_st rfl rfl ?_
  refine Go_bin (v := 64) rfl (by decide +kernel) ?_
  refine Go_st rfl rfl ?_
  refine Go_bin (v := 65) rfl (by decide +kernel) ?_
  refine Go_iald (v := 0) rfl rfl (by decide +kernel) (by decide +kernel) ?_
  refine Go_iast0 rfl rfl (by decide +kernel) ?_
  refine Go_inc (v := 2) rfl rfl (by decide +kernel) ?_
  refine Go_st rfl rfl ?_
  refine Go_st rfl rfl ?_
  refine Go_st rfl rfl ?_
  refine Go_st rfl rfl ?_
  refine Go_ifF (by decide +kernel) ?_
  refine Go_st rfl rfl ?_
  refine Go_st rfl rfl ?_
  refine Go_st rfl rfl ?_
  refine Go_bin (v := 0) rfl (by decide +kernel) ?_
  refine Go_st rfl rfl ?_
  refine Go_bin (v := 2) rfl (by decide +kernel) ?_
  refine Go_st rfl rfl ?_
  refine Go_st rfl rfl ?_
  refine Go_st rfl rfl ?_
  refine Go_bin (v := 64) rfl (by decide +kernel) ?_
  refine Go_st rfl rfl ?_
  refine Go_bin (v := 66) rfl (by decide +kernel) ?_
  refine Go_iald (v := 0) rfl rfl (by decide +kernel) (by decide +kernel) ?_
  refine Go_iast0 rfl rfl (by decide +kernel) ?_
  refine Go_inc (v := 3) rfl rfl (by decide +kernel) ?_
  refine Go_st rfl rfl ?_
  refine Go_st rfl rfl ?_
  refine Go_st rfl rfl ?_
  refine Go_st rfl rfl ?_
  refine Go_ifF (by decide +kernel) ?_
  refine Go_st rfl rfl ?_
  refine Go_st rfl rfl ?_
  refine Go_st rfl rfl ?_
  refine Go_bin (v := 0) rfl (by decide +kernel) ?_
  refine Go_st rfl rfl ?_
  refine Go_bin (v := 3) rfl (by decide +kernel) ?_
  refine Go_st rfl rfl ?_
  refine Go_st rfl rfl ?_
  refine Go_st rfl rfl ?_
  refine Go_bin (v := 64) rfl (by decide +kernel) ?_
  refine Go_st rfl rfl ?_
  refine Go_bin (v := 67) rfl (by decide +kernel) ?_
  refine Go_iald (v := 0) rfl rfl (by decide +kernel) (by decide +kernel) ?_
  refine Go_iast0 rfl rfl (by decide +kernel) ?_
  refine Go_inc (v := 4) rfl rfl (by decide +kernel) ?_
  refine Go_st rfl rfl ?_
  refine Go_st rfl rfl ?_
  refine Go_st rfl rfl ?_
  refine Go_st rfl rfl ?_
  refine Go_ifF (by decide +kernel) ?_
  refine Go_st rfl rfl ?_
  refine Go_st rfl rfl ?_
  refine Go_st rfl rfl ?_
  refine Go_bin (v := 0) rfl (by decide +kernel) ?_
  refine Go_st rfl rfl ?_
  refine Go_bin (v := 4) rfl (by decide +kernel) ?_
  refine Go_st rfl rfl ?_
  refine Go_st rfl rfl ?_
  refine Go_st rfl rfl ?_
  refine Go_bin (v := 64) rfl (by decide +kernel) ?_
  refine Go_st rfl rfl ?_
  refine Go_bin (v := 68) rfl (by decide +kernel) ?_
  refine Go_iald (v := 0) rfl rfl (by decide +kernel) (by decide +kernel) ?_
  refine Go_iast0 rfl rfl (by decide +kernel) ?_
  refine Go_inc (v := 5) rfl rfl (by decide +kernel) ?_
  refine Go_st rfl rfl ?_
  refine Go_st rfl rfl ?_
  refine Go_st rfl rfl ?_
  refine Go_st rfl rfl ?_
  refine Go_ifF (by decide +kernel) ?_
  refine Go_st rfl rfl ?_
  refine Go_st rfl rfl ?_
  refine Go_st rfl rfl ?_
  refine Go_bin (v := 0) rfl (by decide +kernel) ?_
  refine Go_st rfl rfl ?_
  refine Go_bin (v := 5) rfl (by decide +kernel) ?_
  refine Go_st rfl rfl ?_
  refine Go_st rfl rfl ?_
  refine Go_st rfl rfl ?_
  refine Go_bin (v := 64) rfl (by decide +kernel) ?_
  refine Go_st rfl rfl ?_
  refine Go_bin (v := 69) rfl (by decide +kernel) ?_
  refine Go_iald (v := 0) rfl rfl (by decide +kernel) (by decide +kernel) ?_
  refine Go_iast0 rfl rfl (by decide +kernel) ?_
  refine Go_inc (v := 6) rfl rfl (by decide +kernel) ?_
  refine Go_st rfl rfl ?_
  refine Go_st rfl rfl ?_
  refine Go_st rfl rfl ?_
  refine Go_st rfl rfl ?_
  refine Go_ifF (by decide +kernel) ?_
  refine Go_st rfl rfl ?_
  refine Go_st rfl rfl ?_
  refine Go_st rfl rfl ?_
  refine Go_bin (v := 0) rfl (by decide +kernel) ?_
  refine Go_st rfl rfl ?_
  refine Go_bin (v := 6) rfl (by decide +kernel) ?_
  refine Go_st rfl rfl ?_
  refine Go_st rfl rfl ?_
  refine Go_st rfl rfl ?_
  refine Go_bin (v := 64) rfl (by decide +kernel) ?_
  refine Go_st rfl rfl ?_
  refine Go_bin (v := 70) rfl (by decide +kernel) ?_
  refine Go_iald (v := 0) rfl rfl (by decide +kernel) (by decide +kernel) ?_
  refine Go_iast0 rfl rfl (by decide +kernel) ?_
  refine Go_inc (v := 7) rfl rfl (by decide +kernel) ?_
  refine Go_st rfl rfl ?_
  refine Go_st rfl rfl ?_
  refine Go_st rfl rfl ?_
  refine Go_st rfl rfl ?_
  refine Go_ifF (by decide +kernel) ?_
  refine Go_st rfl rfl ?_
  refine Go_st rfl rfl ?_
  refine Go_st rfl rfl ?_
  refine Go_bin (v := 0) rfl (by decide +kernel) ?_
  refine Go_st rfl rfl ?_
  refine Go_bin (v := 7) rfl (by decide +kernel) ?_
  refine Go_st rfl rfl ?_
  refine Go_st rfl rfl ?_
  refine Go_st rfl rfl ?_
  refine Go_bin (v := 64) rfl (by decide +kernel) ?_
  refine Go_st rfl rfl ?_
  refine Go_bin (v := 71) rfl (by decide +kernel) ?_
  refine Go_iald (v := 0) rfl rfl (by decide +kernel) (by decide +kernel) ?_
  refine Go_iast0 rfl rfl (by decide +kernel) ?_
  refine Go_inc (v := 8) rfl rfl (by decide +kernel) ?_
  refine Go_st rfl rfl ?_
  refine Go_st rfl rfl ?_
  refine Go_st rfl rfl ?_
  refine Go_st rfl rfl ?_
  refine Go_ifF (by decide +kernel) ?_
  refine Go_st rfl rfl ?_
  refine Go_st rfl rfl ?_
  refine Go_st rfl rfl ?_
  refine Go_bin (v := 0) rfl (by decide +kernel) ?_
  refine Go_st rfl rfl ?_
  refine Go_bin (v := 8) rfl (by decide +kernel) ?_
  refine Go_st rfl rfl ?_
  refine Go_st rfl rfl ?_
  refine Go_st rfl rfl ?_
  refine Go_bin (v := 64) rfl (by decide +kernel) ?_
  refine Go_st rfl rfl ?_
  refine Go_bin (v := 72) rfl (by decide +kernel) ?_
  refine Go_iald (v := 0) rfl rfl (by decide +kernel) (by decide +kernel) ?_
  refine Go_iast0 rfl rfl (by decide +kernel) ?_
  refine Go_inc (v := 9) rfl rfl (by decide +kernel) ?_
  refine Go_st rfl rfl ?_
  refine Go_st rfl rfl ?_
  refine Go_st rfl rfl ?_
  refine Go_st rfl rfl ?_
  refine Go_ifF (by decide +kernel) ?_
  refine Go_st rfl rfl ?_
  refine Go_st rfl rfl ?_
  refine Go_st rfl rfl ?_
  refine Go_bin (v := 0) rfl (by decide +kernel) ?_
  refine Go_st rfl rfl ?_
  refine Go_bin (v := 9) rfl (by decide +kernel) ?_
  refine Go_st rfl rfl ?_
  refine Go_st rfl rfl ?_
  refine Go_st rfl rfl ?_
  refine Go_bin (v := 64) rfl (by decide +kernel) ?_
  refine Go_st rfl rfl ?_
  refine Go_bin (v := 73) rfl (by decide +kernel) ?_
  refine Go_iald (v := 0) rfl rfl (by decide +kernel) (by decide +kernel) ?_
  refine Go_iast0 rfl rfl (by decide +kernel) ?_
  refine Go_inc (v := 10) rfl rfl (by decide +kernel) ?_
  refine Go_st rfl rfl ?_
  refine Go_st rfl rfl ?_
  refine Go_st rfl rfl ?_
  refine Go_st rfl rfl ?_
  refine Go_ifF (by decide +kernel) ?_
  refine Go_st rfl rfl ?_
  refine Go_st rfl rfl ?_
  refine Go_st rfl rfl ?_
  refine Go_bin (v := 0) rfl (by decide +kernel) ?_
  refine Go_st rfl rfl ?_
  refine Go_bin (v := 10) rfl (by decide +kernel) ?_
  refine Go_st rfl rfl ?_
  refine Go_st rfl rfl ?_
  refine Go_st rfl rfl ?_
  refine Go_bin (v := 64) rfl (by decide +kernel) ?_
  refine Go_st rfl rfl ?_
  refine Go_bin (v := 74) rfl (by decide +kernel) ?_
  refine Go_iald (v := 0) rfl rfl (by decide +kernel) (by decide +kernel) ?_
  refine Go_iast0 rfl rfl (by decide +kernel) ?_
  refine Go_inc (v := 11) rfl rfl (by decide +kernel) ?_
  refine Go_st rfl rfl ?_
  refine Go_st rfl rfl ?_
  refine Go_st rfl rfl ?_
  refine Go_st rfl rfl ?_
  refine Go_ifF (by decide +kernel) ?_
  refine Go_st rfl rfl ?_
  refine Go_st rfl rfl ?_
  refine Go_st rfl rfl ?_
  refine Go_bin (v := 0) rfl (by decide +kernel) ?_
  refine Go_st rfl rfl ?_
  refine Go_bin (v := 11) rfl (by decide +kernel) ?_
  refine Go_st rfl rfl ?_
  refine Go_st rfl rfl ?_
  refine Go_st rfl rfl ?_
  refine Go_bin (v := 64) rfl (by decide +kernel) ?_
  refine Go_st rfl rfl ?_
  refine Go_bin (v := 75) rfl (by decide +kernel) ?_
  refine Go_iald (v := 0) rfl rfl (by decide +kernel) (by decide +kernel) ?_
  refine Go_iast0 rfl rfl (by decide +kernel) ?_
  refine Go_inc (v := 12) rfl rfl (by decide +kernel) ?_
  refine Go_st rfl rfl ?_
  refine Go_st rfl rfl ?_
  refine Go_st rfl rfl ?_
  refine Go_st rfl rfl ?_
  refine Go_ifF (by decide +kernel) ?_
  refine Go_st rfl rfl ?_
  refine Go_st rfl rfl ?_
  refine Go_st rfl rfl ?_
  refine Go_bin (v := 0) rfl (by decide +kernel) ?_
  refine Go_st rfl rfl ?_
  refine Go_bin (v := 12) rfl (by decide +kernel) ?_
  refine Go_st rfl rfl ?_
  refine Go_st rfl rfl ?_
  refine Go_st rfl rfl ?_
  refine Go_bin (v := 64) rfl (by decide +kernel) ?_
  refine Go_st rfl rfl ?_
  refine Go_bin (v := 76) rfl (by decide +kernel) ?_
  refine Go_iald (v := 0) rfl rfl (by decide +kernel) (by decide +kernel) ?_
  refine Go_iast0 rfl rfl (by decide +kernel) ?_
  refine Go_inc (v := 13) rfl rfl (by decide +kernel) ?_
  refine Go_st rfl rfl ?_
  refine Go_st rfl rfl ?_
  refine Go_st rfl rfl ?_
  refine Go_st rfl rfl ?_
  refine Go_ifF (by decide +kernel) ?_
  refine Go_st rfl rfl ?_
  refine Go_st rfl rfl ?_
  refine Go_st rfl rfl ?_
  refine Go_bin (v := 0) rfl (by decide +kernel) ?_
  refine Go_st rfl rfl ?_
  refine Go_bin (v := 13) rfl (by decide +kernel) ?_
  refine Go_st rfl rfl ?_
  refine Go_st rfl rfl ?_
  refine Go_st rfl rfl ?_
  refine Go_bin (v := 64) rfl (by decide +kernel) ?_
  refine Go_st rfl rfl ?_
  refine Go_bin (v := 77) rfl (by decide +kernel) ?_
  refine Go_iald (v := 0) rfl rfl (by decide +kernel) (by decide +kernel) ?_
  refine Go_iast0 rfl rfl (by decide +kernel) ?_
  refine Go_inc (v := 14) rfl rfl (by decide +kernel) ?_
  refine Go_st rfl rfl ?_
  refine Go_st rfl rfl ?_
  refine Go_st rfl rfl ?_
  refine Go_st rfl rfl ?_
  refine Go_ifF (by decide +kernel) ?_
  refine Go_st rfl rfl ?_
  refine Go_st rfl rfl ?_
  refine Go_st rfl rfl ?_
  refine Go_bin (v := 0) rfl (by decide +kernel) ?_
  refine Go_st rfl rfl ?_
  refine Go_bin (v := 14) rfl (by decide +kernel) ?_
  refine Go_st rfl rfl ?_
  refine Go_st rfl rfl ?_
  refine Go_st rfl rfl ?_
  refine Go_bin (v := 64) rfl (by decide +kernel) ?_
  refine Go_st rfl rfl ?_
  refine Go_bin (v := 78) rfl (by decide +kernel) ?_
  refine Go_iald (v := 0) rfl rfl (by decide +kernel) (by decide +kernel) ?_
  refine Go_iast0 rfl rfl (by decide +kernel) ?_
  refine Go_inc (v := 15) rfl rfl (by decide +kernel) ?_
  refine Go_st rfl rfl ?_
  refine Go_st rfl rfl ?_
  refine Go_st rfl rfl ?_
  refine Go_st rfl rfl ?_
  refine Go_ifF (by decide +kernel) ?_
  refine Go_st rfl rfl ?_
  refine Go_st rfl rfl ?_
  refine Go_st rfl rfl ?_
  refine Go_bin (v := 0) rfl (by decide +kernel) ?_
  refine Go_st rfl rfl ?_
  refine Go_bin (v := 15) rfl (by decide +kernel) ?_
  refine Go_st rfl rfl ?_
  refine Go_st rfl rfl ?_
  refine Go_st rfl rfl ?_
  refine Go_bin (v := 64) rfl (by decide +kernel) ?_
  refine Go_st rfl rfl ?_
  refine Go_bin (v := 79) rfl (by decide +kernel) ?_
  refine Go_iald (v := 0) rfl rfl (by decide +kernel) (by decide +kernel) ?_
  refine Go_iast0 rfl rfl (by decide +kernel) ?_
  refine Go_inc (v := 16) rfl rfl (by decide +kernel) ?_
  refine Go_st rfl rfl ?_
  refine Go_st rfl rfl ?_
  refine Go_st rfl rfl ?_
  refine Go_st rfl rfl ?_
  refine Go_ifT (by decide +kernel) ?_
  exact Go_ret rfl ⟨rfl, rfl⟩
set_option maxRecDepth 20000 in
set_option maxHeartbeats 4000000 in
theorem rm_X9_copyRow_16_4_0_b (c : Nat → pm_E) (d : Nat)  : pm_Rt pm_P (d + 1) 132 (hpb c) [.ref 86, .int 16, .int 4, .int 0] (hpb c) none := by
  refine Rt_of aiX9_copyRow (Nat.le_of_ble_eq_true rfl) ?_
  refine Go_st rfl rfl ?_
  refine Go_st rfl rfl ?_
  refine Go_st rfl rfl ?_
  refine Go_st rfl rfl ?_
  refine Go_st rfl rfl ?_
  refine Go_ifF (by decide +kernel) ?_
  refine Go_st rfl rfl ?_
  refine Go_st rfl rfl ?_
  refine Go_st rfl rfl ?_
  refine Go_bin (v := 0) rfl (by decide +kernel) ?_
  refine Go_st rfl rfl ?_
  refine Go_bin (v := 0) rfl (by decide +kernel) ?_
  refine Go_st rfl rfl ?_
  refine Go_st rfl rfl ?_
  refine Go_st rfl rfl ?_
  refine Go_bin (v := 64) rfl (by decide +kernel) ?_
  refine Go_st rfl rfl ?_
  refine Go_bin (v := 64) rfl (by decide +kernel) ?_
  refine Go_iald (v := 0) rfl rfl (by decide +kernel) (by decide +kernel) ?_
  refine Go_iast0 rfl rfl (by decide +kernel) ?_
  refine Go_inc (v := 1) rfl rfl (by decide +kernel) ?_
  refine Go_st rfl rfl ?_
  refine Go_st rfl rfl ?_
  refine Go_st rfl rfl ?_
  refine Go_st rfl rfl ?_
  refine Go_ifF (by decide +kernel) ?_
  refine Go_st rfl rfl ?_
  refine Go_st rfl rfl ?_
  refine Go_st rfl rfl ?_
  refine Go_bin (v := 0) rfl (by decide +kernel) ?_
  refine Go_st rfl rfl ?_
  refine Go_bin (v := 1) rfl (by decide +kernel) ?_
  refine Go_st rfl rfl ?_
  refine Go_st rfl rfl ?_
  refine Go_st rfl rfl ?_
  refine Go_bin (v := 64) rfl (by decide +kernel) ?_
  refine Go_st rfl rfl ?_
  refine Go_bin (v := 65) rfl (by decide +kernel) ?_
  refine Go_iald (v := 0) rfl rfl (by decide +kernel) (by decide +kernel) ?_
  refine Go_iast0 rfl rfl (by decide +kernel) ?_
  refine Go_inc (v := 2) rfl rfl (by decide +kernel) ?_
  refine Go_st rfl rfl ?_
  refine Go_st rfl rfl ?_
  refine Go_st rfl rfl ?_
  refine Go_st rfl rfl ?_
  refine Go_ifF (by decide +kernel) ?_
  refine Go_st rfl rfl ?_
  refine Go_st rfl rfl ?_
  refine Go_st rfl rfl ?_
  refine Go_bin (v := 0) rfl (by decide +kernel) ?_
  refine Go_st rfl rfl ?_
  refine Go_bin (v := 2) rfl (by decide +kernel) ?_
  refine Go_st rfl rfl ?_
  refine Go_st rfl rfl ?_
  refine Go_st rfl rfl ?_
  refine Go_bin (v := 64) rfl (by decide +kernel) ?_
  refine Go_st rfl rfl ?_
  refine Go_bin (v := 66) rfl (by decide +kernel) ?_
  refine Go_iald (v := 0) rfl rfl (by decide +kernel) (by decide +kernel) ?_
  refine Go_iast0 rfl rfl (by decide +kernel) ?_
  refine Go_inc (v := 3) rfl rfl (by decide +kernel) ?_
  refine Go_st rfl rfl ?_
  refine Go_st rfl rfl ?_
  refine Go_st rfl rfl ?_
  refine Go_st rfl rfl ?_
  refine Go_ifF (by decide +kernel) ?_
  refine Go_st rfl rfl ?_
  refine Go_st rfl rfl ?_
  refine Go_st rfl rfl ?_
  refine Go_bin (v := 0) rfl (by decide +kernel) ?_
  refine Go_st rfl rfl ?_
  refine Go_bin (v := 3) rfl (by decide +kernel) ?_
  refine Go_st rfl rfl ?_
  refine Go_st rfl rfl ?_
  refine Go_st rfl rfl ?_
  refine Go_bin (v := 64) rfl (by decide +kernel) ?_
  refine Go_st rfl rfl ?_
  refine Go_bin (v := 67) rfl (by decide +kernel) ?_
  refine Go_iald (v := 0) rfl rfl (by decide +kernel) (by decide +kernel) ?_
  refine Go_iast0 rfl rfl (by decide +kernel) ?_
  refine Go_inc (v := 4) rfl rfl (by decide +kernel) ?_
  refine Go_st rfl rfl ?_
  refine Go_st rfl rfl ?_
  refine Go_st rfl rfl ?_
  refine Go_st rfl rfl ?_
  refine Go_ifF (by decide +kernel) ?_
  refine Go_st rfl rfl ?_
  refine Go_st rfl rfl ?_
  refine Go_st rfl rfl ?_
  refine Go_bin (v := 0) rfl (by decide +kernel) ?_
  refine Go_st rfl rfl ?_
  refine Go_bin (v := 4) rfl (by decide +kernel) ?_
  refine Go_st rfl rfl ?_
  refine Go_st rfl rfl ?_
  refine Go_st rfl rfl ?_
  refine Go_bin (v := 64) rfl (by decide +kernel) ?_
  refine Go_st rfl rfl ?_
  refine Go_bin (v := 68) rfl (by decide +kernel) ?_
  refine Go_iald (v := 0) rfl rfl (by decide +kernel) (by decide +kernel) ?_
  refine Go_iast0 rfl rfl (by decide +kernel) ?_
  refine Go_inc (v := 5) rfl rfl (by decide +kernel) ?_
  refine Go_st rfl rfl ?_
  refine Go_st rfl rfl ?_
  refine Go_st rfl rfl ?_
  refine Go_st rfl rfl ?_
  refine Go_ifF (by decide +kernel) ?_
  refine Go_st rfl rfl ?_
  refine Go_st rfl rfl ?_
  refine Go_st rfl rfl ?_
  refine Go_bin (v := 0) rfl (by decide +kernel) ?_
  refine Go_st rfl rfl ?_
  refine Go_bin (v := 5) rfl (by decide +kernel) ?_
  refine Go_st rfl rfl ?_
  refine Go_st rfl rfl ?_
  refine Go_st rfl rfl ?_
  refine Go_bin (v := 64) rfl (by decide +kernel) ?_
  refine Go_st rfl rfl ?_
  refine Go_bin (v := 69) rfl (by decide +kernel) ?_
  refine Go_iald (v := 0) rfl rfl (by decide +kernel) (by decide +kernel) ?_
  refine Go_iast0 rfl rfl (by decide +kernel) ?_
  refine Go_inc (v := 6) rfl rfl (by decide +kernel) ?_
  refine Go_st rfl rfl ?_
  refine Go_st rfl rfl ?_
  refine Go_st rfl rfl ?_
  refine Go_st rfl rfl ?_
  refine Go_ifF (by decide +kernel) ?_
  refine Go_st rfl rfl ?_
  refine Go_st rfl rfl ?_
  refine Go_st rfl rfl ?_
  refine Go_bin (v := 0) rfl (by decide +kernel) ?_
  refine Go_st rfl rfl ?_
  refine Go_bin (v := 6) rfl (by decide +kernel) ?_
  refine Go_st rfl rfl ?_
  refine Go_st rfl rfl ?_
  refine Go_st rfl rfl ?_
  refine Go_bin (v := 64) rfl (by decide +kernel) ?_
  refine Go_st rfl rfl ?_
  refine Go_bin (v := 70) rfl (by decide +kernel) ?_
  refine Go_iald (v := 0) rfl rfl (by decide +kernel) (by decide +kernel) ?_
  refine Go_iast0 rfl rfl (by decide +kernel) ?_
  refine Go_inc (v := 7) rfl rfl (by decide +kernel) ?_
  refine Go_st rfl rfl ?_
  refine Go_st rfl rfl ?_
  refine Go_st rfl rfl ?_
  refine Go_st rfl rfl ?_
  refine Go_ifF (by decide +kernel) ?_
  refine Go_st rfl rfl ?_
  refine Go_st rfl rfl ?_
  refine Go_st rfl rfl ?_
  refine Go_bin (v := 0) rfl (by decide +kernel) ?_
  refine Go_st rfl rfl ?_
  refine Go_bin (v := 7) rfl (by decide +kernel) ?_
  refine Go_st rfl rfl ?_
  refine Go_st rfl rfl ?_
  refine Go_st rfl rfl ?_
  refine Go_bin (v := 64) rfl (by decide +kernel) ?_
  refine Go_st rfl rfl ?_
  refine Go_bin (v := 71) rfl (by decide +kernel) ?_
  refine Go_iald (v := 0) rfl rfl (by decide +kernel) (by decide +kernel) ?_
  refine Go_iast0 rfl rfl (by decide +kernel) ?_
  refine Go_inc (v := 8) rfl rfl (by decide +kernel) ?_
  refine Go_st rfl rfl ?_
  refine Go_st rfl rfl ?_
  refine Go_st rfl rfl ?_
  refine Go_st rfl rfl ?_
  refine Go_ifF (by decide +kernel) ?_
  refine Go_st rfl rfl ?_
  refine Go_st rfl rfl ?_
  refine Go_st rfl rfl ?_
  refine Go_bin (v := 0) rfl (by decide +kernel) ?_
  refine Go_st rfl rfl ?_
  refine Go_bin (v := 8) rfl (by decide +kernel) ?_
  refine Go_st rfl rfl ?_
  refine Go_st rfl rfl ?_
  refine Go_st rfl rfl ?_
  refine Go_bin (v := 64) rfl (by decide +kernel) ?_
  refine Go_st rfl rfl ?_
  refine Go_bin (v := 72) rfl (by decide +kernel) ?_
  refine Go_iald (v := 0) rfl rfl (by decide +kernel) (by decide +kernel) ?_
  refine Go_iast0 rfl rfl (by decide +kernel) ?_
  refine Go_inc (v := 9) rfl rfl (by decide +kernel) ?_
  refine Go_st rfl rfl ?_
  refine Go_st rfl rfl ?_
  refine Go_st rfl rfl ?_
  refine Go_st rfl rfl ?_
  refine Go_ifF (by decide +kernel) ?_
  refine Go_st rfl rfl ?_
  refine Go_st rfl rfl ?_
  refine Go_st rfl rfl ?_
  refine Go_bin (v := 0) rfl (by decide +kernel) ?_
  refine Go_st rfl rfl ?_
  refine Go_bin (v := 9) rfl (by decide +kernel) ?_
  refine Go_st rfl rfl ?_
  refine Go_st rfl rfl ?_
  refine Go_st rfl rfl ?_
  refine Go_bin (v := 64) rfl (by decide +kernel) ?_
  refine Go_st rfl rfl ?_
  refine Go_bin (v := 73) rfl (by decide +kernel) ?_
  refine Go_iald (v := 0) rfl rfl (by decide +kernel) (by decide +kernel) ?_
  refine Go_iast0 rfl rfl (by decide +kernel) ?_
  refine Go_inc (v := 10) rfl rfl (by decide +kernel) ?_
  refine Go_st rfl rfl ?_
  refine Go_st rfl rfl ?_
  refine Go_st rfl rfl ?_
  refine Go_st rfl rfl ?_
  refine Go_ifF (by decide +kernel) ?_
  refine Go_st rfl rfl ?_
  refine Go_st rfl rfl ?_
  refine Go_st rfl rfl ?_
  refine Go_bin (v := 0) rfl (by decide +kernel) ?_
  refine Go_st rfl rfl ?_
  refine Go_bin (v := 10) rfl (by decide +kernel) ?_
  refine Go_st rfl rfl ?_
  refine Go_st rfl rfl ?_
  refine Go_st rfl rfl ?_
  refine Go_bin (v := 64) rfl (by decide +kernel) ?_
  refine Go_st rfl rfl ?_
  refine Go_bin (v := 74) rfl (by decide +kernel) ?_
  refine Go_iald (v := 0) rfl rfl (by decide +kernel) (by decide +kernel) ?_
  refine Go_iast0 rfl rfl (by decide +kernel) ?_
  refine Go_inc (v := 11) rfl rfl (by decide +kernel) ?_
  refine Go_st rfl rfl ?_
  refine Go_st rfl rfl ?_
  refine Go_st rfl rfl ?_
  refine Go_st rfl rfl ?_
  refine Go_ifF (by decide +kernel) ?_
  refine Go_st rfl rfl ?_
  refine Go_st rfl rfl ?_
  refine Go_st rfl rfl ?_
  refine Go_bin (v := 0) rfl (by decide +kernel) ?_
  refine Go_st rfl rfl ?_
  refine Go_bin (v := 11) rfl (by decide +kernel) ?_
  refine Go_st rfl rfl ?_
  refine Go_st rfl rfl ?_
  refine Go_st rfl rfl ?_
  refine Go_bin (v := 64) rfl (by decide +kernel) ?_
  refine Go_st rfl rfl ?_
  refine Go_bin (v := 75) rfl (by decide +kernel) ?_
  refine Go_iald (v := 0) rfl rfl (by decide +kernel) (by decide +kernel) ?_
  refine Go_iast0 rfl rfl (by decide +kernel) ?_
  refine Go_inc (v := 12) rfl rfl (by decide +kernel) ?_
  refine Go_st rfl rfl ?_
  refine Go_st rfl rfl ?_
  refine Go_st rfl rfl ?_
  refine Go_st rfl rfl ?_
  refine Go_ifF (by decide +kernel) ?_
  refine Go_st rfl rfl ?_
  refine Go_st rfl rfl ?_
  refine Go_st rfl rfl ?_
  refine Go_bin (v := 0) rfl (by decide +kernel) ?_
  refine Go_st rfl rfl ?_
  refine Go_bin (v := 12) rfl (by decide +kernel) ?_
  refine Go_st rfl rfl ?_
  refine Go_st rfl rfl ?_
  refine Go_st rfl rfl ?_
  refine Go_bin (v := 64) rfl (by decide +kernel) ?_
  refine Go_st rfl rfl ?_
  refine Go_bin (v := 76) rfl (by decide +kernel) ?_
  refine Go_iald (v := 0) rfl rfl (by decide +kernel) (by decide +kernel) ?_
  refine Go_iast0 rfl rfl (by decide +kernel) ?_
  refine Go_inc (v := 13) rfl rfl (by decide +kernel) ?_
  refine Go_st rfl rfl ?_
  refine Go_st rfl rfl ?_
  refine Go_st rfl rfl ?_
  refine Go_st rfl rfl ?_
  refine Go_ifF (by decide +kernel) ?_
  refine Go_st rfl rfl ?_
  refine Go_st rfl rfl ?_
  refine Go_st rfl rfl ?_
  refine Go_bin (v := 0) rfl (by decide +kernel) ?_
  refine Go_st rfl rfl ?_
  refine Go_bin (v := 13) rfl (by decide +kernel) ?_
  refine Go_st rfl rfl ?_
  refine Go_st rfl rfl ?_
  refine Go_st rfl rfl ?_
  refine Go_bin (v := 64) rfl (by decide +kernel) ?_
  refine Go_st rfl rfl ?_
  refine Go_bin (v := 77) rfl (by decide +kernel) ?_
  refine Go_iald (v := 0) rfl rfl (by decide +kernel) (by decide +kernel) ?_
  refine Go_iast0 rfl rfl (by decide +kernel) ?_
  refine Go_inc (v := 14) rfl rfl (by decide +kernel) ?_
  refine Go_st rfl rfl ?_
  refine Go_st rfl rfl ?_
  refine Go_st rfl rfl ?_
  refine Go_st rfl rfl ?_
  refine Go_ifF (by decide +kernel) ?_
  refine Go_st rfl rfl ?_
  refine Go_st rfl rfl ?_
  refine Go_st rfl rfl ?_
  refine Go_bin (v := 0) rfl (by decide +kernel) ?_
  refine Go_st rfl rfl ?_
  refine Go_bin (v := 14) rfl (by decide +kernel) ?_
  refine Go_st rfl rfl ?_
  refine Go_st rfl rfl ?_
  refine Go_st rfl rfl ?_
  refine Go_bin (v := 64) rfl (by decide +kernel) ?_
  refine Go_st rfl rfl ?_
  refine Go_bin (v := 78) rfl (by decide +kernel) ?_
  refine Go_iald (v := 0) rfl rfl (by decide +kernel) (by decide +kernel) ?_
  refine Go_iast0 rfl rfl (by decide +kernel) ?_
  refine Go_inc (v := 15) rfl rfl (by decide +kernel) ?_
  refine Go_st rfl rfl ?_
  refine Go_st rfl rfl ?_
  refine Go_st rfl rfl ?_
  refine Go_st rfl rfl ?_
  refine Go_ifF (by decide +kernel) ?_
  refine Go_st rfl rfl ?_
  refine Go_st rfl rfl ?_
  refine Go_st rfl rfl ?_
  refine Go_bin (v := 0) rfl (by decide +kernel) ?_
  refine Go_st rfl rfl ?_
  refine Go_bin (v := 15) rfl (by decide +kernel) ?_
  refine Go_st rfl rfl ?_
  refine Go_st rfl rfl ?_
  refine Go_st rfl rfl ?_
  refine Go_bin (v := 64) rfl (by decide +kernel) ?_
  refine Go_st rfl rfl ?_
  refine Go_bin (v := 79) rfl (by decide +kernel) ?_
  refine Go_iald (v := 0) rfl rfl (by decide +kernel) (by decide +kernel) ?_
  refine Go_iast0 rfl rfl (by decide +kernel) ?_
  refine Go_inc (v := 16) rfl rfl (by decide +kernel) ?_
  refine Go_st rfl rfl ?_
  refine Go_st rfl rfl ?_
  refine Go_st rfl rfl ?_
  refine Go_st rfl rfl ?_
  refine Go_ifT (by decide +kernel) ?_
  exact Go_ret rfl ⟨rfl, rfl⟩
set_option maxRecDepth 20000 in
set_option maxHeartbeats 4000000 in
theorem rm_X9_copyRow_60_4_0_b (c : Nat → pm_E) (d : Nat)  : pm_Rt pm_P (d + 1) 132 (hpb c) [.ref 87, .int 60, .int 4, .int 0] (hpb c) none := by
  refine Rt_of aiX9_copyRow (Nat.le_of_ble_eq_true rfl) ?_
  refine Go_st rfl rfl ?_
  refine Go_st rfl rfl ?_
  refine Go_st rfl rfl ?_
  refine Go_st rfl rfl ?_
  refine Go_st rfl rfl ?_
  refine Go_ifF (by decide +kernel) ?_
  refine Go_st rfl rfl ?_
  refine Go_st rfl rfl ?_
  refine Go_st rfl rfl ?_
  refine Go_bin (v := 0) rfl (by decide +kernel) ?_
  refine Go_st rfl rfl ?_
  refine Go_bin (v := 0) rfl (by decide +kernel) ?_
  refine Go_st rfl rfl ?_
  refine Go_st rfl rfl ?_
  refine Go_st rfl rfl ?_
  refine Go_bin (v := 240) rfl (by decide +kernel) ?_
  refine Go_st rfl rfl ?_
  refine Go_bin (v := 240) rfl (by decide +kernel) ?_
  refine Go_iald (v := 0) rfl rfl (by decide +kernel) (by decide +kernel) ?_
  refine Go_iast0 rfl rfl (by decide +kernel) ?_
  refine Go_inc (v := 1) rfl rfl (by decide +kernel) ?_
  refine Go_st rfl rfl ?_
  refine Go_st rfl rfl ?_
  refine Go_st rfl rfl ?_
  refine Go_st rfl rfl ?_
  refine Go_ifF (by decide +kernel) ?_
  refine Go_st rfl rfl ?_
  refine Go_st rfl rfl ?_
  refine Go_st rfl rfl ?_
  refine Go_bin (v := 0) rfl (by decide +kernel) ?_
  refine Go_st rfl rfl ?_
  refine Go_bin (v := 1) rfl (by decide +kernel) ?_
  refine Go_st rfl rfl ?_
  refine Go_st rfl rfl ?_
  refine Go_st rfl rfl ?_
  refine Go_bin (v := 240) rfl (by decide +kernel) ?_
  refine Go_st rfl rfl ?_
  refine Go_bin (v := 241) rfl (by decide +kernel) ?_
  refine Go_iald (v := 0) rfl rfl (by decide +kernel) (by decide +kernel) ?_
  refine Go_iast0 rfl rfl (by decide +kernel) ?_
  refine Go_inc (v := 2) rfl rfl (by decide +kernel) ?_
  refine Go_st rfl rfl ?_
  refine Go_st rfl rfl ?_
  refine Go_st rfl rfl ?_
  refine Go_st rfl rfl ?_
  refine Go_ifF (by decide +kernel) ?_
  refine Go_st rfl rfl ?_
  refine Go_st rfl rfl ?_
  refine Go_st rfl rfl ?_
  refine Go_bin (v := 0) rfl (by decide +kernel) ?_
  refine Go_st rfl rfl ?_
  refine Go_bin (v := 2) rfl (by decide +kernel) ?_
  refine Go_st rfl rfl ?_
  refine Go_st rfl rfl ?_
  refine Go_st rfl rfl ?_
  refine Go_bin (v := 240) rfl (by decide +kernel) ?_
  refine Go_st rfl rfl ?_
  refine Go_bin (v := 242) rfl (by decide +kernel) ?_
  refine Go_iald (v := 0) rfl rfl (by decide +kernel) (by decide +kernel) ?_
  refine Go_iast0 rfl rfl (by decide +kernel) ?_
  refine Go_inc (v := 3) rfl rfl (by decide +kernel) ?_
  refine Go_st rfl rfl ?_
  refine Go_st rfl rfl ?_
  refine Go_st rfl rfl ?_
  refine Go_st rfl rfl ?_
  refine Go_ifF (by decide +kernel) ?_
  refine Go_st rfl rfl ?_
  refine Go_st rfl rfl ?_
  refine Go_st rfl rfl ?_
  refine Go_bin (v := 0) rfl (by decide +kernel) ?_
  refine Go_st rfl rfl ?_
  refine Go_bin (v := 3) rfl (by decide +kernel) ?_
  refine Go_st rfl rfl ?_
  refine Go_st rfl rfl ?_
  refine Go_st rfl rfl ?_
  refine Go_bin (v := 240) rfl (by decide +kernel) ?_
  refine Go_st rfl rfl ?_
  refine Go_bin (v := 243) rfl (by decide +kernel) ?_
  refine Go_iald (v := 0) rfl rfl (by decide +kernel) (by decide +kernel) ?_
  refine Go_iast0 rfl rfl (by decide +kernel) ?_
  refine Go_inc (v := 4) rfl rfl (by decide +kernel) ?_
  refine Go_st rfl rfl ?_
  refine Go_st rfl rfl ?_
  refine Go_st rfl rfl ?_
  refine Go_st rfl rfl ?_
  refine Go_ifF (by decide +kernel) ?_
  refine Go_st rfl rfl ?_
  refine Go_st rfl rfl ?_
  refine Go_st rfl rfl ?_
  refine Go_bin (v := 0) rfl (by decide +kernel) ?_
  refine Go_st rfl rfl ?_
  refine Go_bin (v := 4) rfl (by decide +kernel) ?_
  refine Go_st rfl rfl ?_
  refine Go_st rfl rfl ?_
  refine Go_st rfl rfl ?_
  refine Go_bin (v := 240) rfl (by decide +kernel) ?_
  refine Go_st rfl rfl ?_
  refine Go_bin (v := 244) rfl (by decide +kernel) ?_
  refine Go_iald (v := 0) rfl rfl (by decide +kernel) (by decide +kernel) ?_
  refine Go_iast0 rfl rfl (by decide +kernel) ?_
  refine Go_inc (v := 5) rfl rfl (by decide +kernel) ?_
  refine Go_st rfl rfl ?_
  refine Go_st rfl rfl ?_
  refine Go_st rfl rfl ?_
  refine Go_st rfl rfl ?_
  refine Go_ifF (by decide +kernel) ?_
  refine Go_st rfl rfl ?_
  refine Go_st rfl rfl ?_
  refine Go_st rfl rfl ?_
  refine Go_bin (v := 0) rfl (by decide +kernel) ?_
  refine Go_st rfl rfl ?_
  refine Go_bin (v := 5) rfl (by decide +kernel) ?_
  refine Go_st rfl rfl ?_
  refine Go_st rfl rfl ?_
  refine Go_st rfl rfl ?_
  refine Go_bin (v := 240) rfl (by decide +kernel) ?_
  refine Go_st rfl rfl ?_
  refine Go_bin (v := 245) rfl (by decide +kernel) ?_
  refine Go_iald (v := 0) rfl rfl (by decide +kernel) (by decide +kernel) ?_
  refine Go_iast0 rfl rfl (by decide +kernel) ?_
  refine Go_inc (v := 6) rfl rfl (by decide +kernel) ?_
  refine Go_st rfl rfl ?_
  refine Go_st rfl rfl ?_
  refine Go_st rfl rfl ?_
  refine Go_st rfl rfl ?_
  refine Go_ifF (by decide +kernel) ?_
  refine Go_st rfl rfl ?_
  refine Go_st rfl rfl ?_
  refine Go_st rfl rfl ?_
  refine Go_bin (v := 0) rfl (by decide +kernel) ?_
  refine Go_st rfl rfl ?_
  refine Go_bin (v := 6) rfl (by decide +kernel) ?_
  refine Go_st rfl rfl ?_
  refine Go_st rfl rfl ?_
  refine Go_st rfl rfl ?_
  refine Go_bin (v := 240) rfl (by decide +kernel) ?_
  refine Go_st rfl rfl ?_
  refine Go_bin (v := 246) rfl (by decide +kernel) ?_
  refine Go_iald (v := 0) rfl rfl (by decide +kernel) (by decide +kernel) ?_
  refine Go_iast0 rfl rfl (by decide +kernel) ?_
  refine Go_inc (v := 7) rfl rfl (by decide +kernel) ?_
  refine Go_st rfl rfl ?_
  refine Go_st rfl rfl ?_
  refine Go_st rfl rfl ?_
  refine Go_st rfl rfl ?_
  refine Go_ifF (by decide +kernel) ?_
  refine Go_st rfl rfl ?_
  refine Go_st rfl rfl ?_
  refine Go_st rfl rfl ?_
  refine Go_bin (v := 0) rfl (by decide +kernel) ?_
  refine Go_st rfl rfl ?_
  refine Go_bin (v := 7) rfl (by decide +kernel) ?_
  refine Go_st rfl rfl ?_
  refine Go_st rfl rfl ?_
  refine Go_st rfl rfl ?_
  refine Go_bin (v := 240) rfl (by decide +kernel) ?_
  refine Go_st rfl rfl ?_
  refine Go_bin (v := 247) rfl (by decide +kernel) ?_
  refine Go_iald (v := 0) rfl rfl (by decide +kernel) (by decide +kernel) ?_
  refine Go_iast0 rfl rfl (by decide +kernel) ?_
  refine Go_inc (v := 8) rfl rfl (by decide +kernel) ?_
  refine Go_st rfl rfl ?_
  refine Go_st rfl rfl ?_
  refine Go_st rfl rfl ?_
  refine Go_st rfl rfl ?_
  refine Go_ifF (by decide +kernel) ?_
  refine Go_st rfl rfl ?_
  refine Go_st rfl rfl ?_
  refine Go_st rfl rfl ?_
  refine Go_bin (v := 0) rfl (by decide +kernel) ?_
  refine Go_st rfl rfl ?_
  refine Go_bin (v := 8) rfl (by decide +kernel) ?_
  refine Go_st rfl rfl ?_
  refine Go_st rfl rfl ?_
  refine Go_st rfl rfl ?_
  refine Go_bin (v := 240) rfl (by decide +kernel) ?_
  refine Go_st rfl rfl ?_
  refine Go_bin (v := 248) rfl (by decide +kernel) ?_
  refine Go_iald (v := 0) rfl rfl (by decide +kernel) (by decide +kernel) ?_
  refine Go_iast0 rfl rfl (by decide +kernel) ?_
  refine Go_inc (v := 9) rfl rfl (by decide +kernel) ?_
  refine Go_st rfl rfl ?_
  refine Go_st rfl rfl ?_
  refine Go_st rfl rfl ?_
  refine Go_st rfl rfl ?_
  refine Go_ifF (by decide +kernel) ?_
  refine Go_st rfl rfl ?_
  refine Go_st rfl rfl ?_
  refine Go_st rfl rfl ?_
  refine Go_bin (v := 0) rfl (by decide +kernel) ?_
  refine Go_st rfl rfl ?_
  refine Go_bin (v := 9) rfl (by decide +kernel) ?_
  refine Go_st rfl rfl ?_
  refine Go_st rfl rfl ?_
  refine Go_st rfl rfl ?_
  refine Go_bin (v := 240) rfl (by decide +kernel) ?_
  refine Go_st rfl rfl ?_
  refine Go_bin (v := 249) rfl (by decide +kernel) ?_
  refine Go_iald (v := 0) rfl rfl (by decide +kernel) (by decide +kernel) ?_
  refine Go_iast0 rfl rfl (by decide +kernel) ?_
  refine Go_inc (v := 10) rfl rfl (by decide +kernel) ?_
  refine Go_st rfl rfl ?_
  refine Go_st rfl rfl ?_
  refine Go_st rfl rfl ?_
  refine Go_st rfl rfl ?_
  refine Go_ifF (by decide +kernel) ?_
  refine Go_st rfl rfl ?_
  refine Go_st rfl rfl ?_
  refine Go_st rfl rfl ?_
  refine Go_bin (v := 0) rfl (by decide +kernel) ?_
  refine Go_st rfl rfl ?_
  refine Go_bin (v := 10) rfl (by decide +kernel) ?_
  refine Go_st rfl rfl ?_
  refine Go_st rfl rfl ?_
  refine Go_st rfl rfl ?_
  refine Go_bin (v := 240) rfl (by decide +kernel) ?_
  refine Go_st rfl rfl ?_
  refine Go_bin (v := 250) rfl (by decide +kernel) ?_
  refine Go_iald (v := 0) rfl rfl (by decide +kernel) (by decide +kernel) ?_
  refine Go_iast0 rfl rfl (by decide +kernel) ?_
  refine Go_inc (v := 11) rfl rfl (by decide +kernel) ?_
  refine Go_st rfl rfl ?_
  refine Go_st rfl rfl ?_
  refine Go_st rfl rfl ?_
  refine Go_st rfl rfl ?_
  refine Go_ifF (by decide +kernel) ?_
  refine Go_st rfl rfl ?_
  refine Go_st rfl rfl ?_
  refine Go_st rfl rfl ?_
  refine Go_bin (v := 0) rfl (by decide +kernel) ?_
  refine Go_st rfl rfl ?_
  refine Go_bin (v := 11) rfl (by decide +kernel) ?_
  refine Go_st rfl rfl ?_
  refine Go_st rfl rfl ?_
  refine Go_st rfl rfl ?_
  refine Go_bin (v := 240) rfl (by decide +kernel) ?_
  refine Go_st rfl rfl ?_
  refine Go_bin (v := 251) rfl (by decide +kernel) ?_
  refine Go_iald (v := 0) rfl rfl (by decide +kernel) (by decide +kernel) ?_
  refine Go_iast0 rfl rfl (by decide +kernel) ?_
  refine Go_inc (v := 12) rfl rfl (by decide +kernel) ?_
  refine Go_st rfl rfl ?_
  refine Go_st rfl rfl ?_
  refine Go_st rfl rfl ?_
  refine Go_st rfl rfl ?_
  refine Go_ifF (by decide +kernel) ?_
  refine Go_st rfl rfl ?_
  refine Go_st rfl rfl ?_
  refine Go_st rfl rfl ?_
  refine Go_bin (v := 0) rfl (by decide +kernel) ?_
  refine Go_st rfl rfl ?_
  refine Go_bin (v := 12) rfl (by decide +kernel) ?_
  refine Go_st rfl rfl ?_
  refine Go_st rfl rfl ?_
  refine Go_st rfl rfl ?_
  refine Go_bin (v := 240) rfl (by decide +kernel) ?_
  refine Go_st rfl rfl ?_
  refine Go_bin (v := 252) rfl (by decide +kernel) ?_
  refine Go_iald (v := 0) rfl rfl (by decide +kernel) (by decide +kernel) ?_
  refine Go_iast0 rfl rfl (by decide +kernel) ?_
  refine Go_inc (v := 13) rfl rfl (by decide +kernel) ?_
  refine Go_st rfl rfl ?_
  refine Go_st rfl rfl ?_
  refine Go_st rfl rfl ?_
  refine Go_st rfl rfl ?_
  refine Go_ifF (by decide +kernel) ?_
  refine Go_st rfl rfl ?_
  refine Go_st rfl rfl ?_
  refine Go_st rfl rfl ?_
  refine Go_bin (v := 0) rfl (by decide +kernel) ?_
  refine Go_st rfl rfl ?_
  refine Go_bin (v := 13) rfl (by decide +kernel) ?_
  refine Go_st rfl rfl ?_
  refine Go_st rfl rfl ?_
  refine Go_st rfl rfl ?_
  refine Go_bin (v := 240) rfl (by decide +kernel) ?_
  refine Go_st rfl rfl ?_
  refine Go_bin (v := 253) rfl (by decide +kernel) ?_
  refine Go_iald (v := 0) rfl rfl (by decide +kernel) (by decide +kernel) ?_
  refine Go_iast0 rfl rfl (by decide +kernel) ?_
  refine Go_inc (v := 14) rfl rfl (by decide +kernel) ?_
  refine Go_st rfl rfl ?_
  refine Go_st rfl rfl ?_
  refine Go_st rfl rfl ?_
  refine Go_st rfl rfl ?_
  refine Go_ifF (by decide +kernel) ?_
  refine Go_st rfl rfl ?_
  refine Go_st rfl rfl ?_
  refine Go_st rfl rfl ?_
  refine Go_bin (v := 0) rfl (by decide +kernel) ?_
  refine Go_st rfl rfl ?_
  refine Go_bin (v := 14) rfl (by decide +kernel) ?_
  refine Go_st rfl rfl ?_
  refine Go_st rfl rfl ?_
  refine Go_st rfl rfl ?_
  refine Go_bin (v := 240) rfl (by decide +kernel) ?_
  refine Go_st rfl rfl ?_
  refine Go_bin (v := 254) rfl (by decide +kernel) ?_
  refine Go_iald (v := 0) rfl rfl (by decide +kernel) (by decide +kernel) ?_
  refine Go_iast0 rfl rfl (by decide +kernel) ?_
  refine Go_inc (v := 15) rfl rfl (by decide +kernel) ?_
  refine Go_st rfl rfl ?_
  refine Go_st rfl rfl ?_
  refine Go_st rfl rfl ?_
  refine Go_st rfl rfl ?_
  refine Go_ifF (by decide +kernel) ?_
  refine Go_st rfl rfl ?_
  refine Go_st rfl rfl ?_
  refine Go_st rfl rfl ?_
  refine Go_bin (v := 0) rfl (by decide +kernel) ?_
  refine Go_st rfl rfl ?_
  refine Go_bin (v := 15) rfl (by decide +kernel) ?_
  refine Go_st rfl rfl ?_
  refine Go_st rfl rfl ?_
  refine Go_st rfl rfl ?_
  refine Go_bin (v := 240) rfl (by decide +kernel) ?_
  refine Go_st rfl rfl ?_
  refine Go_bin (v := 255) rfl (by decide +kernel) ?_
  refine Go_iald (v := 0) rfl rfl (by decide +kernel) (by decide +kernel) ?_
  refine Go_iast0 rfl rfl (by decide +kernel) ?_
  refine Go_inc (v := 16) rfl rfl (by decide +kernel) ?_
  refine Go_st rfl rfl ?_
  refine Go_st rfl rfl ?_
  refine Go_st rfl rfl ?_
  refine Go_st rfl rfl ?_
  refine Go_ifF (by decide +kernel) ?_
  refine Go_st rfl rfl ?_
  refine Go_st rfl rfl ?_
  refine Go_st rfl rfl ?_
  refine Go_bin (v := 0) rfl (by decide +kernel) ?_
  refine Go_st rfl rfl ?_
  refine Go_bin (v := 16) rfl (by decide +kernel) ?_
  refine Go_st rfl rfl ?_
  refine Go_st rfl rfl ?_
  refine Go_st rfl rfl ?_
  refine Go_bin (v := 240) rfl (by decide +kernel) ?_
  refine Go_st rfl rfl ?_
  refine Go_bin (v := 256) rfl (by decide +kernel) ?_
  refine Go_iald (v := 0) rfl rfl (by decide +kernel) (by decide +kernel) ?_
  refine Go_iast0 rfl rfl (by decide +kernel) ?_
  refine Go_inc (v := 17) rfl rfl (by decide +kernel) ?_
  refine Go_st rfl rfl ?_
  refine Go_st rfl rfl ?_
  refine Go_st rfl rfl ?_
  refine Go_st rfl rfl ?_
  refine Go_ifF (by decide +kernel) ?_
  refine Go_st rfl rfl ?_
  refine Go_st rfl rfl ?_
  refine Go_st rfl rfl ?_
  refine Go_bin (v := 0) rfl (by decide +kernel) ?_
  refine Go_st rfl rfl ?_
  refine Go_bin (v := 17) rfl (by decide +kernel) ?_
  refine Go_st rfl rfl ?_
  refine Go_st rfl rfl ?_
  refine Go_st rfl rfl ?_
  refine Go_bin (v := 240) rfl (by decide +kernel) ?_
  refine Go_st rfl rfl ?_
  refine Go_bin (v := 257) rfl (by decide +kernel) ?_
  refine Go_iald (v := 0) rfl rfl (by decide +kernel) (by decide +kernel) ?_
  refine Go_iast0 rfl rfl (by decide +kernel) ?_
  refine Go_inc (v := 18) rfl rfl (by decide +kernel) ?_
  refine Go_st rfl rfl ?_
  refine Go_st rfl rfl ?_
  refine Go_st rfl rfl ?_
  refine Go_st rfl rfl ?_
  refine Go_ifF (by decide +kernel) ?_
  refine Go_st rfl rfl ?_
  refine Go_st rfl rfl ?_
  refine Go_st rfl rfl ?_
  refine Go_bin (v := 0) rfl (by decide +kernel) ?_
  refine Go_st rfl rfl ?_
  refine Go_bin (v := 18) rfl (by decide +kernel) ?_
  refine Go_st rfl rfl ?_
  refine Go_st rfl rfl ?_
  refine Go_st rfl rfl ?_
  refine Go_bin (v := 240) rfl (by decide +kernel) ?_
  refine Go_st rfl rfl ?_
  refine Go_bin (v := 258) rfl (by decide +kernel) ?_
  refine Go_iald (v := 0) rfl rfl (by decide +kernel) (by decide +kernel) ?_
  refine Go_iast0 rfl rfl (by decide +kernel) ?_
  refine Go_inc (v := 19) rfl rfl (by decide +kernel) ?_
  refine Go_st rfl rfl ?_
  refine Go_st rfl rfl ?_
  refine Go_st rfl rfl ?_
  refine Go_st rfl rfl ?_
  refine Go_ifF (by decide +kernel) ?_
  refine Go_st rfl rfl ?_
  refine Go_st rfl rfl ?_
  refine Go_st rfl rfl ?_
  refine Go_bin (v := 0) rfl (by decide +kernel) ?_
  refine Go_st rfl rfl ?_
  refine Go_bin (v := 19) rfl (by decide +kernel) ?_
  refine Go_st rfl rfl ?_
  refine Go_st rfl rfl ?_
  refine Go_st rfl rfl ?_
  refine Go_bin (v := 240) rfl (by decide +kernel) ?_
  refine Go_st rfl rfl ?_
  refine Go_bin (v := 259) rfl (by decide +kernel) ?_
  refine Go_iald (v := 0) rfl rfl (by decide +kernel) (by decide +kernel) ?_
  refine Go_iast0 rfl rfl (by decide +kernel) ?_
  refine Go_inc (v := 20) rfl rfl (by decide +kernel) ?_
  refine Go_st rfl rfl ?_
  refine Go_st rfl rfl ?_
  refine Go_st rfl rfl ?_
  refine Go_st rfl rfl ?_
  refine Go_ifF (by decide +kernel) ?_
  refine Go_st rfl rfl ?_
  refine Go_st rfl rfl ?_
  refine Go_st rfl rfl ?_
  refine Go_bin (v := 0) rfl (by decide +kernel) ?_
  refine Go_st rfl rfl ?_
  refine Go_bin (v := 20) rfl (by decide +kernel) ?_
  refine Go_st rfl rfl ?_
  refine Go_st rfl rfl ?_
  refine Go_st rfl rfl ?_
  refine Go_bin (v := 240) rfl (by decide +kernel) ?_
  refine Go_st rfl rfl ?_
  refine Go_bin (v := 260) rfl (by decide +kernel) ?_
  refine Go_iald (v := 0) rfl rfl (by decide +kernel) (by decide +kernel) ?_
  refine Go_iast0 rfl rfl (by decide +kernel) ?_
  refine Go_inc (v := 21) rfl rfl (by decide +kernel) ?_
  refine Go_st rfl rfl ?_
  refine Go_st rfl rfl ?_
  refine Go_st rfl rfl ?_
  refine Go_st rfl rfl ?_
  refine Go_ifF (by decide +kernel) ?_
  refine Go_st rfl rfl ?_
  refine Go_st rfl rfl ?_
  refine Go_st rfl rfl ?_
  refine Go_bin (v := 0) rfl (by decide +kernel) ?_
  refine Go_st rfl rfl ?_
  refine Go_bin (v := 21) rfl (by decide +kernel) ?_
  refine Go_st rfl rfl ?_
  refine Go_st rfl rfl ?_
  refine Go_st rfl rfl ?_
  refine Go_bin (v := 240) rfl (by decide +kernel) ?_
  refine Go_st rfl rfl ?_
  refine Go_bin (v := 261) rfl (by decide +kernel) ?_
  refine Go_iald (v := 0) rfl rfl (by decide +kernel) (by decide +kernel) ?_
  refine Go_iast0 rfl rfl (by decide +kernel) ?_
  refine Go_inc (v := 22) rfl rfl (by decide +kernel) ?_
  refine Go_st rfl rfl ?_
  refine Go_st rfl rfl ?_
  refine Go_st rfl rfl ?_
  refine Go_st rfl rfl ?_
  refine Go_ifF (by decide +kernel) ?_
  refine Go_st rfl rfl ?_
  refine Go_st rfl rfl ?_
  refine Go_st rfl rfl ?_
  refine Go_bin (v := 0) rfl (by decide +kernel) ?_
  refine Go_st rfl rfl ?_
  refine Go_bin (v := 22) rfl (by decide +kernel) ?_
  refine Go_st rfl rfl ?_
  refine Go_st rfl rfl ?_
  refine Go_st rfl rfl ?_
  refine Go_bin (v := 240) rfl (by decide +kernel) ?_
  refine Go_st rfl rfl ?_
  refine Go_bin (v := 262) rfl (by decide +kernel) ?_
  refine Go_iald (v := 0) rfl rfl (by decide +kernel) (by decide +kernel) ?_
  refine Go_iast0 rfl rfl (by decide +kernel) ?_
  refine Go_inc (v := 23) rfl rfl (by decide +kernel) ?_
  refine Go_st rfl rfl ?_
  refine Go_st rfl rfl ?_
  refine Go_st rfl rfl ?_
  refine Go_st rfl rfl ?_
  refine Go_ifF (by decide +kernel) ?_
  refine Go_st rfl rfl ?_
  refine Go_st rfl rfl ?_
  refine Go_st rfl rfl ?_
  refine Go_bin (v := 0) rfl (by decide +kernel) ?_
  refine Go_st rfl rfl ?_
  refine Go_bin (v := 23) rfl (by decide +kernel) ?_
  refine Go_st rfl rfl ?_
  refine Go_st rfl rfl ?_
  refine Go_st rfl rfl ?_
  refine Go_bin (v := 240) rfl (by decide +kernel) ?_
  refine Go_st rfl rfl ?_
  refine Go_bin (v := 263) rfl (by decide +kernel) ?_
  refine Go_iald (v := 0) rfl rfl (by decide +kernel) (by decide +kernel) ?_
  refine Go_iast0 rfl rfl (by decide +kernel) ?_
  refine Go_inc (v := 24) rfl rfl (by decide +kernel) ?_
  refine Go_st rfl rfl ?_
  refine Go_st rfl rfl ?_
  refine Go_st rfl rfl ?_
  refine Go_st rfl rfl ?_
  refine Go_ifF (by decide +kernel) ?_
  refine Go_st rfl rfl ?_
  refine Go_st rfl rfl ?_
  refine Go_st rfl rfl ?_
  refine Go_bin (v := 0) rfl (by decide +kernel) ?_
  refine Go_st rfl rfl ?_
  refine Go_bin (v := 24) rfl (by decide +kernel) ?_
  refine Go_st rfl rfl ?_
  refine Go_st rfl rfl ?_
  refine Go_st rfl rfl ?_
  refine Go_bin (v := 240) rfl (by decide +kernel) ?_
  refine Go_st rfl rfl ?_
  refine Go_bin (v := 264) rfl (by decide +kernel) ?_
  refine Go_iald (v := 0) rfl rfl (by decide +kernel) (by decide +kernel) ?_
  refine Go_iast0 rfl rfl (by decide +kernel) ?_
  refine Go_inc (v := 25) rfl rfl (by decide +kernel) ?_
  refine Go_st rfl rfl ?_
  refine Go_st rfl rfl ?_
  refine Go_st rfl rfl ?_
  refine Go_st rfl rfl ?_
  refine Go_ifF (by decide +kernel) ?_
  refine Go_st rfl rfl ?_
  refine Go_st rfl rfl ?_
  refine Go_st rfl rfl ?_
  refine Go_bin (v := 0) rfl (by decide +kernel) ?_
  refine Go_st rfl rfl ?_
  refine Go_bin (v := 25) rfl (by decide +kernel) ?_
  refine Go_st rfl rfl ?_
  refine Go_st rfl rfl ?_
  refine Go_st rfl rfl ?_
  refine Go_bin (v := 240) rfl (by decide +kernel) ?_
  refine Go_st rfl rfl ?_
  refine Go_bin (v := 265) rfl (by decide +kernel) ?_
  refine Go_iald (v := 0) rfl rfl (by decide +kernel) (by decide +kernel) ?_
  refine Go_iast0 rfl rfl (by decide +kernel) ?_
  refine Go_inc (v := 26) rfl rfl (by decide +kernel) ?_
  refine Go_st rfl rfl ?_
  refine Go_st rfl rfl ?_
  refine Go_st rfl rfl ?_
  refine Go_st rfl rfl ?_
  refine Go_ifF (by decide +kernel) ?_
  refine Go_st rfl rfl ?_
  refine Go_st rfl rfl ?_
  refine Go_st rfl rfl ?_
  refine Go_bin (v := 0) rfl (by decide +kernel) ?_
  refine Go_st rfl rfl ?_
  refine Go_bin (v := 26) rfl (by decide +kernel) ?_
  refine Go_st rfl rfl ?_
  refine Go_st rfl rfl ?_
  refine Go_st rfl rfl ?_
  refine Go_bin (v := 240) rfl (by decide +kernel) ?_
  refine Go_st rfl rfl ?_
  refine Go_bin (v := 266) rfl (by decide +kernel) ?_
  refine Go_iald (v := 0) rfl rfl (by decide +kernel) (by decide +kernel) ?_
  refine Go_iast0 rfl rfl (by decide +kernel) ?_
  refine Go_inc (v := 27) rfl rfl (by decide +kernel) ?_
  refine Go_st rfl rfl ?_
  refine Go_st rfl rfl ?_
  refine Go_st rfl rfl ?_
  refine Go_st rfl rfl ?_
  refine Go_ifF (by decide +kernel) ?_
  refine Go_st rfl rfl ?_
  refine Go_st rfl rfl ?_
  refine Go_st rfl rfl ?_
  refine Go_bin (v := 0) rfl (by decide +kernel) ?_
  refine Go_st rfl rfl ?_
  refine Go_bin (v := 27) rfl (by decide +kernel) ?_
  refine Go_st rfl rfl ?_
  refine Go_st rfl rfl ?_
  refine Go_st rfl rfl ?_
  refine Go_bin (v := 240) rfl (by decide +kernel) ?_
  refine Go_st rfl rfl ?_
  refine Go_bin (v := 267) rfl (by decide +kernel) ?_
  refine Go_iald (v := 0) rfl rfl (by decide +kernel) (by decide +kernel) ?_
  refine Go_iast0 rfl rfl (by decide +kernel) ?_
  refine Go_inc (v := 28) rfl rfl (by decide +kernel) ?_
  refine Go_st rfl rfl ?_
  refine Go_st rfl rfl ?_
  refine Go_st rfl rfl ?_
  refine Go_st rfl rfl ?_
  refine Go_ifF (by decide +kernel) ?_
  refine Go_st rfl rfl ?_
  refine Go_st rfl rfl ?_
  refine Go_st rfl rfl ?_
  refine Go_bin (v := 0) rfl (by decide +kernel) ?_
  refine Go_st rfl rfl ?_
  refine Go_bin (v := 28) rfl (by decide +kernel) ?_
  refine Go_st rfl rfl ?_
  refine Go_st rfl rfl ?_
  refine Go_st rfl rfl ?_
  refine Go_bin (v := 240) rfl (by decide +kernel) ?_
  refine Go_st rfl rfl ?_
  refine Go_bin (v := 268) rfl (by decide +kernel) ?_
  refine Go_iald (v := 0) rfl rfl (by decide +kernel) (by decide +kernel) ?_
  refine Go_iast0 rfl rfl (by decide +kernel) ?_
  refine Go_inc (v := 29) rfl rfl (by decide +kernel) ?_
  refine Go_st rfl rfl ?_
  refine Go_st rfl rfl ?_
  refine Go_st rfl rfl ?_
  refine Go_st rfl rfl ?_
  refine Go_ifF (by decide +kernel) ?_
  refine Go_st rfl rfl ?_
  refine Go_st rfl rfl ?_
  refine Go_st rfl rfl ?_
  refine Go_bin (v := 0) rfl (by decide +kernel) ?_
  refine Go_st rfl rfl ?_
  refine Go_bin (v := 29) rfl (by decide +kernel) ?_
  refine Go_st rfl rfl ?_
  refine Go_st rfl rfl ?_
  refine Go_st rfl rfl ?_
  refine Go_bin (v := 240) rfl (by decide +kernel) ?_
  refine Go_st rfl rfl ?_
  refine Go_bin (v := 269) rfl (by decide +kernel) ?_
  refine Go_iald (v := 0) rfl rfl (by decide +kernel) (by decide +kernel) ?_
  refine Go_iast0 rfl rfl (by decide +kernel) ?_
  refine Go_inc (v := 30) rfl rfl (by decide +kernel) ?_
  refine Go_st rfl rfl ?_
  refine Go_st rfl rfl ?_
  refine Go_st rfl rfl ?_
  refine Go_st rfl rfl ?_
  refine Go_ifF (by decide +kernel) ?_
  refine Go_st rfl rfl ?_
  refine Go_st rfl rfl ?_
  refine Go_st rfl rfl ?_
  refine Go_bin (v := 0) rfl (by decide +kernel) ?_
  refine Go_st rfl rfl ?_
  refine Go_bin (v := 30) rfl (by decide +kernel) ?_
  refine Go_st rfl rfl ?_
  refine Go_st rfl rfl ?_
  refine Go_st rfl rfl ?_
  refine Go_bin (v := 240) rfl (by decide +kernel) ?_
  refine Go_st rfl rfl ?_
  refine Go_bin (v := 270) rfl (by decide +kernel) ?_
  refine Go_iald (v := 0) rfl rfl (by decide +kernel) (by decide +kernel) ?_
  refine Go_iast0 rfl rfl (by decide +kernel) ?_
  refine Go_inc (v := 31) rfl rfl (by decide +kernel) ?_
  refine Go_st rfl rfl ?_
  refine Go_st rfl rfl ?_
  refine Go_st rfl rfl ?_
  refine Go_st rfl rfl ?_
  refine Go_ifF (by decide +kernel) ?_
  refine Go_st rfl rfl ?_
  refine Go_st rfl rfl ?_
  refine Go_st rfl rfl ?_
  refine Go_bin (v := 0) rfl (by decide +kernel) ?_
  refine Go_st rfl rfl ?_
  refine Go_bin (v := 31) rfl (by decide +kernel) ?_
  refine Go_st rfl rfl ?_
  refine Go_st rfl rfl ?_
  refine Go_st rfl rfl ?_
  refine Go_bin (v := 240) rfl (by decide +kernel) ?_
  refine Go_st rfl rfl ?_
  refine Go_bin (v := 271) rfl (by decide +kernel) ?_
  refine Go_iald (v := 0) rfl rfl (by decide +kernel) (by decide +kernel) ?_
  refine Go_iast0 rfl rfl (by decide +kernel) ?_
  refine Go_inc (v := 32) rfl rfl (by decide +kernel) ?_
  refine Go_st rfl rfl ?_
  refine Go_st rfl rfl ?_
  refine Go_st rfl rfl ?_
  refine Go_st rfl rfl ?_
  refine Go_ifF (by decide +kernel) ?_
  refine Go_st rfl rfl ?_
  refine Go_st rfl rfl ?_
  refine Go_st rfl rfl ?_
  refine Go_bin (v := 0) rfl (by decide +kernel) ?_
  refine Go_st rfl rfl ?_
  refine Go_bin (v := 32) rfl (by decide +kernel) ?_
  refine Go_st rfl rfl ?_
  refine Go_st rfl rfl ?_
  refine Go_st rfl rfl ?_
  refine Go_bin (v := 240) rfl (by decide +kernel) ?_
  refine Go_st rfl rfl ?_
  refine Go_bin (v := 272) rfl (by decide +kernel) ?_
  refine Go_iald (v := 0) rfl rfl (by decide +kernel) (by decide +kernel) ?_
  refine Go_iast0 rfl rfl (by decide +kernel) ?_
  refine Go_inc (v := 33) rfl rfl (by decide +kernel) ?_
  refine Go_st rfl rfl ?_
  refine Go_st rfl rfl ?_
  refine Go_st rfl rfl ?_
  refine Go_st rfl rfl ?_
  refine Go_ifF (by decide +kernel) ?_
  refine Go_st rfl rfl ?_
  refine Go_st rfl rfl ?_
  refine Go_st rfl rfl ?_
  refine Go_bin (v := 0) rfl (by decide +kernel) ?_
  refine Go_st rfl rfl ?_
  refine Go_bin (v := 33) rfl (by decide +kernel) ?_
  refine Go_st rfl rfl ?_
  refine Go_st rfl rfl ?_
  refine Go_st rfl rfl ?_
  refine Go_bin (v := 240) rfl (by decide +kernel) ?_
  refine Go_st rfl rfl ?_
  refine Go_bin (v := 273) rfl (by decide +kernel) ?_
  refine Go_iald (v := 0) rfl rfl (by decide +kernel) (by decide +kernel) ?_
  refine Go_iast0 rfl rfl (by decide +kernel) ?_
  refine Go_inc (v := 34) rfl rfl (by decide +kernel) ?_
  refine Go_st rfl rfl ?_
  refine Go_st rfl rfl ?_
  refine Go_st rfl rfl ?_
  refine Go_st rfl rfl ?_
  refine Go_ifF (by decide +kernel) ?_
  refine Go_st rfl rfl ?_
  refine Go_st rfl rfl ?_
  refine Go_st rfl rfl ?_
  refine Go_bin (v := 0) rfl (by decide +kernel) ?_
  refine Go_st rfl rfl ?_
  refine Go_bin (v := 34) rfl (by decide +kernel) ?_
  refine Go_st rfl rfl ?_
  refine Go_st rfl rfl ?_
  refine Go_st rfl rfl ?_
  refine Go_bin (v := 240) rfl (by decide +kernel) ?_
  refine Go_st rfl rfl ?_
  refine Go_bin (v := 274) rfl (by decide +kernel) ?_
  refine Go_iald (v := 0) rfl rfl (by decide +kernel) (by decide +kernel) ?_
  refine Go_iast0 rfl rfl (by decide +kernel) ?_
  refine Go_inc (v := 35) rfl rfl (by decide +kernel) ?_
  refine Go_st rfl rfl ?_
  refine Go_st rfl rfl ?_
  refine Go_st rfl rfl ?_
  refine Go_st rfl rfl ?_
  refine Go_ifF (by decide +kernel) ?_
  refine Go_st rfl rfl ?_
  refine Go_st rfl rfl ?_
  refine Go_st rfl rfl ?_
  refine Go_bin (v := 0) rfl (by decide +kernel) ?_
  refine Go_st rfl rfl ?_
  refine Go_bin (v := 35) rfl (by decide +kernel) ?_
  refine Go_st rfl rfl ?_
  refine Go_st rfl rfl ?_
  refine Go_st rfl rfl ?_
  refine Go_bin (v := 240) rfl (by decide +kernel) ?_
  refine Go_st rfl rfl ?_
  refine Go_bin (v := 275) rfl (by decide +kernel) ?_
  refine Go_iald (v := 0) rfl rfl (by decide +kernel) (by decide +kernel) ?_
  refine Go_iast0 rfl rfl (by decide +kernel) ?_
  refine Go_inc (v := 36) rfl rfl (by decide +kernel) ?_
  refine Go_st rfl rfl ?_
  refine Go_st rfl rfl ?_
  refine Go_st rfl rfl ?_
  refine Go_st rfl rfl ?_
  refine Go_ifF (by decide +kernel) ?_
  refine Go_st rfl rfl ?_
  refine Go_st rfl rfl ?_
  refine Go_st rfl rfl ?_
  refine Go_bin (v := 0) rfl (by decide +kernel) ?_
  refine Go_st rfl rfl ?_
  refine Go_bin (v := 36) rfl (by decide +kernel) ?_
  refine Go_st rfl rfl ?_
  refine Go_st rfl rfl ?_
  refine Go_st rfl rfl ?_
  refine Go_bin (v := 240) rfl (by decide +kernel) ?_
  refine Go_st rfl rfl ?_
  refine Go_bin (v := 276) rfl (by decide +kernel) ?_
  refine Go_iald (v := 0) rfl rfl (by decide +kernel) (by decide +kernel) ?_
  refine Go_iast0 rfl rfl (by decide +kernel) ?_
  refine Go_inc (v := 37) rfl rfl (by decide +kernel) ?_
  refine Go_st rfl rfl ?_
  refine Go_st rfl rfl ?_
  refine Go_st rfl rfl ?_
  refine Go_st rfl rfl ?_
  refine Go_ifF (by decide +kernel) ?_
  refine Go_st rfl rfl ?_
  refine Go_st rfl rfl ?_
  refine Go_st rfl rfl ?_
  refine Go_bin (v := 0) rfl (by decide +kernel) ?_
  refine Go_st rfl rfl ?_
  refine Go_bin (v := 37) rfl (by decide +kernel) ?_
  refine Go_st rfl rfl ?_
  refine Go_st rfl rfl ?_
  refine Go_st rfl rfl ?_
  refine Go_bin (v := 240) rfl (by decide +kernel) ?_
  refine Go_st rfl rfl ?_
  refine Go_bin (v := 277) rfl (by decide +kernel) ?_
  refine Go_iald (v := 0) rfl rfl (by decide +kernel) (by decide +kernel) ?_
  refine Go_iast0 rfl rfl (by decide +kernel) ?_
  refine Go_inc (v := 38) rfl rfl (by decide +kernel) ?_
  refine Go_st rfl rfl ?_
  refine Go_st rfl rfl ?_
  refine Go_st rfl rfl ?_
  refine Go_st rfl rfl ?_
  refine Go_ifF (by decide +kernel) ?_
  refine Go_st rfl rfl ?_
  refine Go_st rfl rfl ?_
  refine Go_st rfl rfl ?_
  refine Go_bin (v := 0) rfl (by decide +kernel) ?_
  refine Go_st rfl rfl ?_
  refine Go_bin (v := 38) rfl (by decide +kernel) ?_
  refine Go_st rfl rfl ?_
  refine Go_st rfl rfl ?_
  refine Go_st rfl rfl ?_
  refine Go_bin (v := 240) rfl (by decide +kernel) ?_
  refine Go_st rfl rfl ?_
  refine Go_bin (v := 278) rfl (by decide +kernel) ?_
  refine Go_iald (v := 0) rfl rfl (by decide +kernel) (by decide +kernel) ?_
  refine Go_iast0 rfl rfl (by decide +kernel) ?_
  refine Go_inc (v := 39) rfl rfl (by decide +kernel) ?_
  refine Go_st rfl rfl ?_
  refine Go_st rfl rfl ?_
  refine Go_st rfl rfl ?_
  refine Go_st rfl rfl ?_
  refine Go_ifF (by decide +kernel) ?_
  refine Go_st rfl rfl ?_
  refine Go_st rfl rfl ?_
  refine Go_st rfl rfl ?_
  refine Go_bin (v := 0) rfl (by decide +kernel) ?_
  refine Go_st rfl rfl ?_
  refine Go_bin (v := 39) rfl (by decide +kernel) ?_
  refine Go_st rfl rfl ?_
  refine Go_st rfl rfl ?_
  refine Go_st rfl rfl ?_
  refine Go_bin (v := 240) rfl (by decide +kernel) ?_
  refine Go_st rfl rfl ?_
  refine Go_bin (v := 279) rfl (by decide +kernel) ?_
  refine Go_iald (v := 0) rfl rfl (by decide +kernel) (by decide +kernel) ?_
  refine Go_iast0 rfl rfl (by decide +kernel) ?_
  refine Go_inc (v := 40) rfl rfl (by decide +kernel) ?_
  refine Go_st rfl rfl ?_
  refine Go_st rfl rfl ?_
  refine Go_st rfl rfl ?_
  refine Go_st rfl rfl ?_
  refine Go_ifF (by decide +kernel) ?_
  refine Go_st rfl rfl ?_
  refine Go_st rfl rfl ?_
  refine Go_st rfl rfl ?_
  refine Go_bin (v := 0) rfl (by decide +kernel) ?_
  refine Go_st rfl rfl ?_
  refine Go_bin (v := 40) rfl (by decide +kernel) ?_
  refine Go_st rfl rfl ?_
  refine Go_st rfl rfl ?_
  refine Go_st rfl rfl ?_
  refine Go_bin (v := 240) rfl (by decide +kernel) ?_
  refine Go_st rfl rfl ?_
  refine Go_bin (v := 280) rfl (by decide +kernel) ?_
  refine Go_iald (v := 0) rfl rfl (by decide +kernel) (by decide +kernel) ?_
  refine Go_iast0 rfl rfl (by decide +kernel) ?_
  refine Go_inc (v := 41) rfl rfl (by decide +kernel) ?_
  refine Go_st rfl rfl ?_
  refine Go_st rfl rfl ?_
  refine Go_st rfl rfl ?_
  refine Go_st rfl rfl ?_
  refine Go_ifF (by decide +kernel) ?_
  refine Go_st rfl rfl ?_
  refine Go_st rfl rfl ?_
  refine Go_st rfl rfl ?_
  refine Go_bin (v := 0) rfl (by decide +kernel) ?_
  refine Go_st rfl rfl ?_
  refine Go_bin (v := 41) rfl (by decide +kernel) ?_
  refine Go_st rfl rfl ?_
  refine Go_st rfl rfl ?_
  refine Go_st rfl rfl ?_
  refine Go_bin (v := 240) rfl (by decide +kernel) ?_
  refine Go_st rfl rfl ?_
  refine Go_bin (v := 281) rfl (by decide +kernel) ?_
  refine Go_iald (v := 0) rfl rfl (by decide +kernel) (by decide +kernel) ?_
  refine Go_iast0 rfl rfl (by decide +kernel) ?_
  refine Go_inc (v := 42) rfl rfl (by decide +kernel) ?_
  refine Go_st rfl rfl ?_
  refine Go_st rfl rfl ?_
  refine Go_st rfl rfl ?_
  refine Go_st rfl rfl ?_
  refine Go_ifF (by decide +kernel) ?_
  refine Go_st rfl rfl ?_
  refine Go_st rfl rfl ?_
  refine Go_st rfl rfl ?_
  refine Go_bin (v := 0) rfl (by decide +kernel) ?_
  refine Go_st rfl rfl ?_
  refine Go_bin (v := 42) rfl (by decide +kernel) ?_
  refine Go_st rfl rfl ?_
  refine Go_st rfl rfl ?_
  refine Go_st rfl rfl ?_
  refine Go_bin (v := 240) rfl (by decide +kernel) ?_
  refine Go_st rfl rfl ?_
  refine Go_bin (v := 282) rfl (by decide +kernel) ?_
  refine Go_iald (v := 0) rfl rfl (by decide +kernel) (by decide +kernel) ?_
  refine Go_iast0 rfl rfl (by decide +kernel) ?_
  refine Go_inc (v := 43) rfl rfl (by decide +kernel) ?_
  refine Go_st rfl rfl ?_
  refine Go_st rfl rfl ?_
  refine Go_st rfl rfl ?_
  refine Go_st rfl rfl ?_
  refine Go_ifF (by decide +kernel) ?_
  refine Go_st rfl rfl ?_
  refine Go_st rfl rfl ?_
  refine Go_st rfl rfl ?_
  refine Go_bin (v := 0) rfl (by decide +kernel) ?_
  refine Go_st rfl rfl ?_
  refine Go_bin (v := 43) rfl (by decide +kernel) ?_
  refine Go_st rfl rfl ?_
  refine Go_st rfl rfl ?_
  refine Go_st rfl rfl ?_
  refine Go_bin (v := 240) rfl (by decide +kernel) ?_
  refine Go_st rfl rfl ?_
  refine Go_bin (v := 283) rfl (by decide +kernel) ?_
  refine Go_iald (v := 0) rfl rfl (by decide +kernel) (by decide +kernel) ?_
  refine Go_iast0 rfl rfl (by decide +kernel) ?_
  refine Go_inc (v := 44) rfl rfl (by decide +kernel) ?_
  refine Go_st rfl rfl ?_
  refine Go_st rfl rfl ?_
  refine Go_st rfl rfl ?_
  refine Go_st rfl rfl ?_
  refine Go_ifF (by decide +kernel) ?_
  refine Go_st rfl rfl ?_
  refine Go_st rfl rfl ?_
  refine Go_st rfl rfl ?_
  refine Go_bin (v := 0) rfl (by decide +kernel) ?_
  refine Go_st rfl rfl ?_
  refine Go_bin (v := 44) rfl (by decide +kernel) ?_
  refine Go_st rfl rfl ?_
  refine Go_st rfl rfl ?_
  refine Go_st rfl rfl ?_
  refine Go_bin (v := 240) rfl (by decide +kernel) ?_
  refine Go_st rfl rfl ?_
  refine Go_bin (v := 284) rfl (by decide +kernel) ?_
  refine Go_iald (v := 0) rfl rfl (by decide +kernel) (by decide +kernel) ?_
  refine Go_iast0 rfl rfl (by decide +kernel) ?_
  refine Go_inc (v := 45) rfl rfl (by decide +kernel) ?_
  refine Go_st rfl rfl ?_
  refine Go_st rfl rfl ?_
  refine Go_st rfl rfl ?_
  refine Go_st rfl rfl ?_
  refine Go_ifF (by decide +kernel) ?_
  refine Go_st rfl rfl ?_
  refine Go_st rfl rfl ?_
  refine Go_st rfl rfl ?_
  refine Go_bin (v := 0) rfl (by decide +kernel) ?_
  refine Go_st rfl rfl ?_
  refine Go_bin (v := 45) rfl (by decide +kernel) ?_
  refine Go_st rfl rfl ?_
  refine Go_st rfl rfl ?_
  refine Go_st rfl rfl ?_
  refine Go_bin (v := 240) rfl (by decide +kernel) ?_
  refine Go_st rfl rfl ?_
  refine Go_bin (v := 285) rfl (by decide +kernel) ?_
  refine Go_iald (v := 0) rfl rfl (by decide +kernel) (by decide +kernel) ?_
  refine Go_iast0 rfl rfl (by decide +kernel) ?_
  refine Go_inc (v := 46) rfl rfl (by decide +kernel) ?_
  refine Go_st rfl rfl ?_
  refine Go_st rfl rfl ?_
  refine Go_st rfl rfl ?_
  refine Go_st rfl rfl ?_
  refine Go_ifF (by decide +kernel) ?_
  refine Go_st rfl rfl ?_
  refine Go_st rfl rfl ?_
  refine Go_st rfl rfl ?_
  refine Go_bin (v := 0) rfl (by decide +kernel) ?_
  refine Go_st rfl rfl ?_
  refine Go_bin (v := 46) rfl (by decide +kernel) ?_
  refine Go_st rfl rfl ?_
  refine Go_st rfl rfl ?_
  refine Go_st rfl rfl ?_
  refine Go_bin (v := 240) rfl (by decide +kernel) ?_
  refine Go_st rfl rfl ?_
  refine Go_bin (v := 286) rfl (by decide +kernel) ?_
  refine Go_iald (v := 0) rfl rfl (by decide +kernel) (by decide +kernel) ?_
  refine Go_iast0 rfl rfl (by decide +kernel) ?_
  refine Go_inc (v := 47) rfl rfl (by decide +kernel) ?_
  refine Go_st rfl rfl ?_
  refine Go_st rfl rfl ?_
  refine Go_st rfl rfl ?_
  refine Go_st rfl rfl ?_
  refine Go_ifF (by decide +kernel) ?_
  refine Go_st rfl rfl ?_
  refine Go_st rfl rfl ?_
  refine Go_st rfl rfl ?_
  refine Go_bin (v := 0) rfl (by decide +kernel) ?_
  refine Go_st rfl rfl ?_
  refine Go_bin (v := 47) rfl (by decide +kernel) ?_
  refine Go_st rfl rfl ?_
  refine Go_st rfl rfl ?_
  refine Go_st rfl rfl ?_
  refine Go_bin (v := 240) rfl (by decide +kernel) ?_
  refine Go_st rfl rfl ?_
  refine Go_bin (v := 287) rfl (by decide +kernel) ?_
  refine Go_iald (v := 0) rfl rfl (by decide +kernel) (by decide +kernel) ?_
  refine Go_iast0 rfl rfl (by decide +kernel) ?_
  refine Go_inc (v := 48) rfl rfl (by decide +kernel) ?_
  refine Go_st rfl rfl ?_
  refine Go_st rfl rfl ?_
  refine Go_st rfl rfl ?_
  refine Go_st rfl rfl ?_
  refine Go_ifF (by decide +kernel) ?_
  refine Go_st rfl rfl ?_
  refine Go_st rfl rfl ?_
  refine Go_st rfl rfl ?_
  refine Go_bin (v := 0) rfl (by decide +kernel) ?_
  refine Go_st rfl rfl ?_
  refine Go_bin (v := 48) rfl (by decide +kernel) ?_
  refine Go_st rfl rfl ?_
  refine Go_st rfl rfl ?_
  refine Go_st rfl rfl ?_
  refine Go_bin (v := 240) rfl (by decide +kernel) ?_
  refine Go_st rfl rfl ?_
  refine Go_bin (v := 288) rfl (by decide +kernel) ?_
  refine Go_iald (v := 0) rfl rfl (by decide +kernel) (by decide +kernel) ?_
  refine Go_iast0 rfl rfl (by decide +kernel) ?_
  refine Go_inc (v := 49) rfl rfl (by decide +kernel) ?_
  refine Go_st rfl rfl ?_
  refine Go_st rfl rfl ?_
  refine Go_st rfl rfl ?_
  refine Go_st rfl rfl ?_
  refine Go_ifF (by decide +kernel) ?_
  refine Go_st rfl rfl ?_
  refine Go_st rfl rfl ?_
  refine Go_st rfl rfl ?_
  refine Go_bin (v := 0) rfl (by decide +kernel) ?_
  refine Go_st rfl rfl ?_
  refine Go_bin (v := 49) rfl (by decide +kernel) ?_
  refine Go_st rfl rfl ?_
  refine Go_st rfl rfl ?_
  refine Go_st rfl rfl ?_
  refine Go_bin (v := 240) rfl (by decide +kernel) ?_
  refine Go_st rfl rfl ?_
  refine Go_bin (v := 289) rfl (by decide +kernel) ?_
  refine Go_iald (v := 0) rfl rfl (by decide +kernel) (by decide +kernel) ?_
  refine Go_iast0 rfl rfl (by decide +kernel) ?_
  refine Go_inc (v := 50) rfl rfl (by decide +kernel) ?_
  refine Go_st rfl rfl ?_
  refine Go_st rfl rfl ?_
  refine Go_st rfl rfl ?_
  refine Go_st rfl rfl ?_
  refine Go_ifF (by decide +kernel) ?_
  refine Go_st rfl rfl ?_
  refine Go_st rfl rfl ?_
  refine Go_st rfl rfl ?_
  refine Go_bin (v := 0) rfl (by decide +kernel) ?_
  refine Go_st rfl rfl ?_
  refine Go_bin (v := 50) rfl (by decide +kernel) ?_
  refine Go_st rfl rfl ?_
  refine Go_st rfl rfl ?_
  refine Go_st rfl rfl ?_
  refine Go_bin (v := 240) rfl (by decide +kernel) ?_
  refine Go_st rfl rfl ?_
  refine Go_bin (v := 290) rfl (by decide +kernel) ?_
  refine Go_iald (v := 0) rfl rfl (by decide +kernel) (by decide +kernel) ?_
  refine Go_iast0 rfl rfl (by decide +kernel) ?_
  refine Go_inc (v := 51) rfl rfl (by decide +kernel) ?_
  refine Go_st rfl rfl ?_
  refine Go_st rfl rfl ?_
  refine Go_st rfl rfl ?_
  refine Go_st rfl rfl ?_
  refine Go_ifF (by decide +kernel) ?_
  refine Go_st rfl rfl ?_
  refine Go_st rfl rfl ?_
  refine Go_st rfl rfl ?_
  refine Go_bin (v := 0) rfl (by decide +kernel) ?_
  refine Go_st rfl rfl ?_
  refine Go_bin (v := 51) rfl (by decide +kernel) ?_
  refine Go_st rfl rfl ?_
  refine Go_st rfl rfl ?_
  refine Go_st rfl rfl ?_
  refine Go_bin (v := 240) rfl (by decide +kernel) ?_
  refine Go_st rfl rfl ?_
  refine Go_bin (v := 291) rfl (by decide +kernel) ?_
  refine Go_iald (v := 0) rfl rfl (by decide +kernel) (by decide +kernel) ?_
  refine Go_iast0 rfl rfl (by decide +kernel) ?_
  refine Go_inc (v := 52) rfl rfl (by decide +kernel) ?_
  refine Go_st rfl rfl ?_
  refine Go_st rfl rfl ?_
  refine Go_st rfl rfl ?_
  refine Go_st rfl rfl ?_
  refine Go_ifF (by decide +kernel) ?_
  refine Go_st rfl rfl ?_
  refine Go_st rfl rfl ?_
  refine Go_st rfl rfl ?_
  refine Go_bin (v := 0) rfl (by decide +kernel) ?_
  refine Go_st rfl rfl ?_
  refine Go_bin (v := 52) rfl (by decide +kernel) ?_
  refine Go_st rfl rfl ?_
  refine Go_st rfl rfl ?_
  refine Go_st rfl rfl ?_
  refine Go_bin (v := 240) rfl (by decide +kernel) ?_
  refine Go_st rfl rfl ?_
  refine Go_bin (v := 292) rfl (by decide +kernel) ?_
  refine Go_iald (v := 0) rfl rfl (by decide +kernel) (by decide +kernel) ?_
  refine Go_iast0 rfl rfl (by decide +kernel) ?_
  refine Go_inc (v := 53) rfl rfl (by decide +kernel) ?_
  refine Go_st rfl rfl ?_
  refine Go_st rfl rfl ?_
  refine Go_st rfl rfl ?_
  refine Go_st rfl rfl ?_
  refine Go_ifF (by decide +kernel) ?_
  refine Go_st rfl rfl ?_
  refine Go_st rfl rfl ?_
  refine Go_st rfl rfl ?_
  refine Go_bin (v := 0) rfl (by decide +kernel) ?_
  refine Go_st rfl rfl ?_
  refine Go_bin (v := 53) rfl (by decide +kernel) ?_
  refine Go_st rfl rfl ?_
  refine Go_st rfl rfl ?_
  refine Go_st rfl rfl ?_
  refine Go_bin (v := 240) rfl (by decide +kernel) ?_
  refine Go_st rfl rfl ?_
  refine Go_bin (v := 293) rfl (by decide +kernel) ?_
  refine Go_iald (v := 0) rfl rfl (by decide +kernel) (by decide +kernel) ?_
  refine Go_iast0 rfl rfl (by decide +kernel) ?_
  refine Go_inc (v := 54) rfl rfl (by decide +kernel) ?_
  refine Go_st rfl rfl ?_
  refine Go_st rfl rfl ?_
  refine Go_st rfl rfl ?_
  refine Go_st rfl rfl ?_
  refine Go_ifF (by decide +kernel) ?_
  refine Go_st rfl rfl ?_
  refine Go_st rfl rfl ?_
  refine Go_st rfl rfl ?_
  refine Go_bin (v := 0) rfl (by decide +kernel) ?_
  refine Go_st rfl rfl ?_
  refine Go_bin (v := 54) rfl (by decide +kernel) ?_
  refine Go_st rfl rfl ?_
  refine Go_st rfl rfl ?_
  refine Go_st rfl rfl ?_
  refine Go_bin (v := 240) rfl (by decide +kernel) ?_
  refine Go_st rfl rfl ?_
  refine Go_bin (v := 294) rfl (by decide +kernel) ?_
  refine Go_iald (v := 0) rfl rfl (by decide +kernel) (by decide +kernel) ?_
  refine Go_iast0 rfl rfl (by decide +kernel) ?_
  refine Go_inc (v := 55) rfl rfl (by decide +kernel) ?_
  refine Go_st rfl rfl ?_
  refine Go_st rfl rfl ?_
  refine Go_st rfl rfl ?_
  refine Go_st rfl rfl ?_
  refine Go_ifF (by decide +kernel) ?_
  refine Go_st rfl rfl ?_
  refine Go_st rfl rfl ?_
  refine Go_st rfl rfl ?_
  refine Go_bin (v := 0) rfl (by decide +kernel) ?_
  refine Go_st rfl rfl ?_
  refine Go_bin (v := 55) rfl (by decide +kernel) ?_
  refine Go_st rfl rfl ?_
  refine Go_st rfl rfl ?_
  refine Go_st rfl rfl ?_
  refine Go_bin (v := 240) rfl (by decide +kernel) ?_
  refine Go_st rfl rfl ?_
  refine Go_bin (v := 295) rfl (by decide +kernel) ?_
  refine Go_iald (v := 0) rfl rfl (by decide +kernel) (by decide +kernel) ?_
  refine Go_iast0 rfl rfl (by decide +kernel) ?_
  refine Go_inc (v := 56) rfl rfl (by decide +kernel) ?_
  refine Go_st rfl rfl ?_
  refine Go_st rfl rfl ?_
  refine Go_st rfl rfl ?_
  refine Go_st rfl rfl ?_
  refine Go_ifF (by decide +kernel) ?_
  refine Go_st rfl rfl ?_
  refine Go_st rfl rfl ?_
  refine Go_st rfl rfl ?_
  refine Go_bin (v := 0) rfl (by decide +kernel) ?_
  refine Go_st rfl rfl ?_
  refine Go_bin (v := 56) rfl (by decide +kernel) ?_
  refine Go_st rfl rfl ?_
  refine Go_st rfl rfl ?_
  refine Go_st rfl rfl ?_
  refine Go_bin (v := 240) rfl (by decide +kernel) ?_
  refine Go_st rfl rfl ?_
  refine Go_bin (v := 296) rfl (by decide +kernel) ?_
  refine Go_iald (v := 0) rfl rfl (by decide +kernel) (by decide +kernel) ?_
  refine Go_iast0 rfl rfl (by decide +kernel) ?_
  refine Go_inc (v := 57) rfl rfl (by decide +kernel) ?_
  refine Go_st rfl rfl ?_
  refine Go_st rfl rfl ?_
  refine Go_st rfl rfl ?_
  refine Go_st rfl rfl ?_
  refine Go_ifF (by decide +kernel) ?_
  refine Go_st rfl rfl ?_
  refine Go_st rfl rfl ?_
  refine Go_st rfl rfl ?_
  refine Go_bin (v := 0) rfl (by decide +kernel) ?_
  refine Go_st rfl rfl ?_
  refine Go_bin (v := 57) rfl (by decide +kernel) ?_
  refine Go_st rfl rfl ?_
  refine Go_st rfl rfl ?_
  refine Go_st rfl rfl ?_
  refine Go_bin (v := 240) rfl (by decide +kernel) ?_
  refine Go_st rfl rfl ?_
  refine Go_bin (v := 297) rfl (by decide +kernel) ?_
  refine Go_iald (v := 0) rfl rfl (by decide +kernel) (by decide +kernel) ?_
  refine Go_iast0 rfl rfl (by decide +kernel) ?_
  refine Go_inc (v := 58) rfl rfl (by decide +kernel) ?_
  refine Go_st rfl rfl ?_
  refine Go_st rfl rfl ?_
  refine Go_st rfl rfl ?_
  refine Go_st rfl rfl ?_
  refine Go_ifF (by decide +kernel) ?_
  refine Go_st rfl rfl ?_
  refine Go_st rfl rfl ?_
  refine Go_st rfl rfl ?_
  refine Go_bin (v := 0) rfl (by decide +kernel) ?_
  refine Go_st rfl rfl ?_
  refine Go_bin (v := 58) rfl (by decide +kernel) ?_
  refine Go_st rfl rfl ?_
  refine Go_st rfl rfl ?_
  refine Go_st rfl rfl ?_
  refine Go_bin (v := 240) rfl (by decide +kernel) ?_
  refine Go_st rfl rfl ?_
  refine Go_bin (v := 298) rfl (by decide +kernel) ?_
  refine Go_iald (v := 0) rfl rfl (by decide +kernel) (by decide +kernel) ?_
  refine Go_iast0 rfl rfl (by decide +kernel) ?_
  refine Go_inc (v := 59) rfl rfl (by decide +kernel) ?_
  refine Go_st rfl rfl ?_
  refine Go_st rfl rfl ?_
  refine Go_st rfl rfl ?_
  refine Go_st rfl rfl ?_
  refine Go_ifF (by decide +kernel) ?_
  refine Go_st rfl rfl ?_
  refine Go_st rfl rfl ?_
  refine Go_st rfl rfl ?_
  refine Go_bin (v := 0) rfl (by decide +kernel) ?_
  refine Go_st rfl rfl ?_
  refine Go_bin (v := 59) rfl (by decide +kernel) ?_
  refine Go_st rfl rfl ?_
  refine Go_st rfl rfl ?_
  refine Go_st rfl rfl ?_
  refine Go_bin (v := 240) rfl (by decide +kernel) ?_
  refine Go_st rfl rfl ?_
  refine Go_bin (v := 299) rfl (by decide +kernel) ?_
  refine Go_iald (v := 0) rfl rfl (by decide +kernel) (by decide +kernel) ?_
  refine Go_iast0 rfl rfl (by decide +kernel) ?_
  refine Go_inc (v := 60) rfl rfl (by decide +kernel) ?_
  refine Go_st rfl rfl ?_
  refine Go_st rfl rfl ?_
  refine Go_st rfl rfl ?_
  refine Go_st rfl rfl ?_
  refine Go_ifT (by decide +kernel) ?_
  exact Go_ret rfl ⟨rfl, rfl⟩
set_option maxRecDepth 20000 in
set_option maxHeartbeats 4000000 in
theorem rm_X9_copyStreet_4_0_b (c : Nat → pm_E) (d : Nat)  : pm_Rt pm_P (d + 2) 133 (hpb c) [.ref 77, .int 4, .int 0] (hpb c) none := by
  refine Rt_of aiX9_copyStreet (Nat.le_of_ble_eq_true rfl) ?_
  refine Go_st rfl rfl ?_
  refine Go_st rfl rfl ?_
  refine Go_st rfl rfl ?_
  refine Go_st rfl rfl ?_
  refine Go_st rfl rfl ?_
  refine Go_call rfl (rm_X9_copyRow_1_4_0_b c d) (chkS rfl rfl rfl rfl) ?_
  refine Go_st rfl rfl ?_
  refine Go_st rfl rfl ?_
  refine Go_st rfl rfl ?_
  refine Go_st rfl rfl ?_
  refine Go_st rfl rfl ?_
  refine Go_call rfl (rm_X9_copyRow_6_4_0_b c d) (chkS rfl rfl rfl rfl) ?_
  refine Go_st rfl rfl ?_
  refine Go_st rfl rfl ?_
  refine Go_st rfl rfl ?_
  refine Go_st rfl rfl ?_
  refine Go_st rfl rfl ?_
  refine Go_call rfl (rm_X9_copyRow_16_4_0_b c d) (chkS rfl rfl rfl rfl) ?_
  refine Go_st rfl rfl ?_
  refine Go_st rfl rfl ?_
  refine Go_st rfl rfl ?_
  refine Go_st rfl rfl ?_
  refine Go_st rfl rfl ?_
  refine Go_call rfl (rm_X9_copyRow_16_4_0_b c d) (chkS rfl rfl rfl rfl) ?_
  refine Go_st rfl rfl ?_
  refine Go_st rfl rfl ?_
  refine Go_st rfl rfl ?_
  refine Go_st rfl rfl ?_
  refine Go_st rfl rfl ?_
  refine Go_call rfl (rm_X9_copyRow_60_4_0_b c d) (chkS rfl rfl rfl rfl) ?_
  exact Go_ret rfl ⟨rfl, rfl⟩
set_option maxRecDepth 20000 in
set_option maxHeartbeats 4000000 in
theorem rm_X9_street (c : Nat → pm_E) (d : Nat)  : pm_Rt pm_P (d + 4) 203 (hpm c) [.ref 77] (hpb c) (some (.int 0)) := by
  refine Rt_of aiX9_street (Nat.le_of_ble_eq_true rfl) ?_
  refine Go_st rfl rfl ?_
  refine Go_st rfl rfl ?_
  refine Go_sm rfl rfl (sm_f rfl) ?_
  refine Go_st rfl rfl ?_
  refine Go_call rfl (rm_X9_clears c (d + 1)) (chkV rfl rfl rfl rfl rfl rfl) ?_
  refine Go_st rfl rfl ?_
  refine Go_call rfl (rm_X9_begins c d) (chkV rfl rfl rfl rfl rfl rfl) ?_
  refine Go_st rfl rfl ?_
  refine Go_call rfl (rm_X9_isGood_b c (d + 2)) (chkV rfl rfl rfl rfl rfl rfl) ?_
  refine Go_st rfl rfl ?_
  refine Go_ifF (by decide +kernel) ?_
  refine Go_st rfl rfl ?_
  refine Go_st rfl rfl ?_
  refine Go_st rfl rfl ?_
  refine Go_ifT (by decide +kernel) ?_
  refine Go_st rfl rfl ?_
  refine Go_call rfl (rm_X9_isOver_b c (d + 2)) (chkV rfl rfl rfl rfl rfl rfl) ?_
  refine Go_st rfl rfl ?_
  refine Go_st rfl rfl ?_
  refine Go_st rfl rfl ?_
  refine Go_ifT (by decide +kernel) ?_
  refine Go_st rfl rfl ?_
  refine Go_st rfl rfl ?_
  refine Go_st rfl rfl ?_
  refine Go_call rfl (rm_X9_copyStreet_4_0_b c (d + 1)) (chkV rfl rfl rfl rfl rfl rfl) ?_
  refine Go_st rfl rfl ?_
  refine Go_st rfl rfl ?_
  refine Go_st rfl rfl ?_
  refine Go_iald (v := 0) rfl rfl (by decide +kernel) (by decide +kernel) ?_
  exact Go_ret rfl ⟨_, rfl, rfl⟩
set_option maxRecDepth 20000 in
set_option maxHeartbeats 4000000 in
theorem rx_X8_car_v_v (d : Nat) (a1 : Int32) (a2 : Int32) : pm_Rt pm_P (d + 2) 26 (hp0) [.ref 0, .int a1, .int a2] (hp0) (some (.int (-2))) := by
  refine Rt_of aiX8_car (Nat.le_of_ble_eq_true rfl) ?_
  refine Go_st rfl rfl ?_
  refine Go_st rfl rfl ?_
  refine Go_call rfl (rx_X8_hasCar d _) (chkV rfl rfl rfl rfl rfl rfl) ?_
  refine Go_st rfl rfl ?_
  refine Go_ifT (by decide +kernel) ?_
  refine Go_st rfl rfl ?_
  exact Go_ret rfl ⟨_, rfl, rfl⟩
set_option maxRecDepth 20000 in
set_option maxHeartbeats 4000000 in
theorem rm_X9_cars (c : Nat → pm_E) (d : Nat)  : pm_Rt pm_P (d + 1) 127 (hpm c) [.ref 77] (hpm c) (some (.int 0)) := by
  refine Rt_of aiX9_cars (Nat.le_of_ble_eq_true rfl) ?_
  refine Go_st rfl rfl ?_
  refine Go_st rfl rfl ?_
  refine Go_st rfl rfl ?_
  refine Go_iald (v := 0) rfl rfl (by decide +kernel) (by decide +kernel) ?_
  exact Go_ret rfl ⟨_, rfl, rfl⟩
set_option maxRecDepth 20000 in
set_option maxHeartbeats 4000000 in
theorem rm_X9_isCar_v (c : Nat → pm_E) (d : Nat) (a1 : Int64) : pm_Rt pm_P (d + 2) 155 (hpm c) [.ref 77, .long a1] (hpm c) (some (.int 0)) := by
  refine Rt_of aiX9_isCar (Nat.le_of_ble_eq_true rfl) ?_
  refine Go_st rfl rfl ?_
  refine Go_st rfl rfl ?_
  refine Go_st rfl rfl ?_
  refine Go_call rfl (rm_X9_cars c d) (chkV rfl rfl rfl rfl rfl rfl) ?_
  refine Go_st rfl rfl ?_
  refine Go_st rfl rfl ?_
  refine Go_st rfl rfl ?_
  refine Go_call rfl (rm_in0 _ d _ _ _ (pm_no (by decide +kernel))) (chkS rfl rfl rfl rfl) ?_
  exact Go_ret rfl ⟨_, rfl, by decide, rfl⟩
