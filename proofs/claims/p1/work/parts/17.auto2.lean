/-! runs on a fresh object (written by gen_auto.py) -/
set_option maxRecDepth 20000 in
set_option maxHeartbeats 4000000 in
theorem rm_X9_paste_3_v_0_v_v (c : Nat → pm_E) (d : Nat) (a2 : Int32) (a4 : Int32) (a5 : Int32) : pm_Rt pm_P (d + 3) 184 (hpm c) [.ref 77, .int 3, .int a2, .int 0, .int a4, .int a5] (hpm c) (some (.int (-6))) := by
  refine Rt_of aiX9_paste (Nat.le_of_ble_eq_true rfl) ?_
  refine Go_st rfl rfl ?_
  refine Go_st rfl rfl ?_
  refine Go_sm rfl rfl (sm_f rfl) ?_
  refine Go_st rfl rfl ?_
  refine Go_call rfl (rm_isSlot1 _ d _ (by decide +kernel)) (chkS rfl rfl rfl rfl) ?_
  refine Go_st rfl rfl ?_
  refine Go_ifF (by decide +kernel) ?_
  refine Go_st rfl rfl ?_
  refine Go_call rfl (rm_isSlot1 _ d _ (by decide +kernel)) (chkS rfl rfl rfl rfl) ?_
  refine Go_st rfl rfl ?_
  refine Go_ifT (by decide +kernel) ?_
  refine Go_st rfl rfl ?_
  refine Go_st rfl rfl ?_
  refine Go_st rfl rfl ?_
  refine Go_iald (v := -1) rfl rfl (by decide +kernel) (by decide +kernel) ?_
  refine Go_st rfl rfl ?_
  refine Go_st rfl rfl ?_
  refine Go_ifT (by decide +kernel) ?_
  refine Go_st rfl rfl ?_
  exact Go_ret rfl ⟨_, rfl, rfl⟩
set_option maxRecDepth 20000 in
set_option maxHeartbeats 4000000 in
theorem rm_X9_paste_3_v_1_v_v (c : Nat → pm_E) (d : Nat) (a2 : Int32) (a4 : Int32) (a5 : Int32) : pm_Rt pm_P (d + 3) 184 (hpm c) [.ref 77, .int 3, .int a2, .int 1, .int a4, .int a5] (hpm c) (some (.int (-6))) := by
  refine Rt_of aiX9_paste (Nat.le_of_ble_eq_true rfl) ?_
  refine Go_st rfl rfl ?_
  refine Go_st rfl rfl ?_
  refine Go_sm rfl rfl (sm_f rfl) ?_
  refine Go_st rfl rfl ?_
  refine Go_call rfl (rm_isSlot1 _ d _ (by decide +kernel)) (chkS rfl rfl rfl rfl) ?_
  refine Go_st rfl rfl ?_
  refine Go_ifF (by decide +kernel) ?_
  refine Go_st rfl rfl ?_
  refine Go_call rfl (rm_isSlot1 _ d _ (by decide +kernel)) (chkS rfl rfl rfl rfl) ?_
  refine Go_st rfl rfl ?_
  refine Go_ifT (by decide +kernel) ?_
  refine Go_st rfl rfl ?_
  refine Go_st rfl rfl ?_
  refine Go_st rfl rfl ?_
  refine Go_iald (v := -1) rfl rfl (by decide +kernel) (by decide +kernel) ?_
  refine Go_st rfl rfl ?_
  refine Go_st rfl rfl ?_
  refine Go_ifT (by decide +kernel) ?_
  refine Go_st rfl rfl ?_
  exact Go_ret rfl ⟨_, rfl, rfl⟩
set_option maxRecDepth 20000 in
set_option maxHeartbeats 4000000 in
theorem rm_X9_paste_3_v_2_v_v (c : Nat → pm_E) (d : Nat) (a2 : Int32) (a4 : Int32) (a5 : Int32) : pm_Rt pm_P (d + 3) 184 (hpm c) [.ref 77, .int 3, .int a2, .int 2, .int a4, .int a5] (hpm c) (some (.int (-6))) := by
  refine Rt_of aiX9_paste (Nat.le_of_ble_eq_true rfl) ?_
  refine Go_st rfl rfl ?_
  refine Go_st rfl rfl ?_
  refine Go_sm rfl rfl (sm_f rfl) ?_
  refine Go_st rfl rfl ?_
  refine Go_call rfl (rm_isSlot1 _ d _ (by decide +kernel)) (chkS rfl rfl rfl rfl) ?_
  refine Go_st rfl rfl ?_
  refine Go_ifF (by decide +kernel) ?_
  refine Go_st rfl rfl ?_
  refine Go_call rfl (rm_isSlot1 _ d _ (by decide +kernel)) (chkS rfl rfl rfl rfl) ?_
  refine Go_st rfl rfl ?_
  refine Go_ifT (by decide +kernel) ?_
  refine Go_st rfl rfl ?_
  refine Go_st rfl rfl ?_
  refine Go_st rfl rfl ?_
  refine Go_iald (v := -1) rfl rfl (by decide +kernel) (by decide +kernel) ?_
  refine Go_st rfl rfl ?_
  refine Go_st rfl rfl ?_
  refine Go_ifT (by decide +kernel) ?_
  refine Go_st rfl rfl ?_
  exact Go_ret rfl ⟨_, rfl, rfl⟩
set_option maxRecDepth 20000 in
set_option maxHeartbeats 4000000 in
theorem rm_X9_paste_3_v_3_v_v (c : Nat → pm_E) (d : Nat) (a2 : Int32) (a4 : Int32) (a5 : Int32) : pm_Rt pm_P (d + 3) 184 (hpm c) [.ref 77, .int 3, .int a2, .int 3, .int a4, .int a5] (hpm c) (some (.int (-6))) := by
  refine Rt_of aiX9_paste (Nat.le_of_ble_eq_true rfl) ?_
  refine Go_st rfl rfl ?_
  refine Go_st rfl rfl ?_
  refine Go_sm rfl rfl (sm_f rfl) ?_
  refine Go_st rfl rfl ?_
  refine Go_call rfl (rm_isSlot1 _ d _ (by decide +kernel)) (chkS rfl rfl rfl rfl) ?_
  refine Go_st rfl rfl ?_
  refine Go_ifF (by decide +kernel) ?_
  refine Go_st rfl rfl ?_
  refine Go_call rfl (rm_isSlot1 _ d _ (by decide +kernel)) (chkS rfl rfl rfl rfl) ?_
  refine Go_st rfl rfl ?_
  refine Go_ifT (by decide +kernel) ?_
  refine Go_st rfl rfl ?_
  refine Go_st rfl rfl ?_
  refine Go_st rfl rfl ?_
  refine Go_iald (v := -1) rfl rfl (by decide +kernel) (by decide +kernel) ?_
  refine Go_st rfl rfl ?_
  refine Go_st rfl rfl ?_
  refine Go_ifT (by decide +kernel) ?_
  refine Go_st rfl rfl ?_
  exact Go_ret rfl ⟨_, rfl, rfl⟩
set_option maxRecDepth 20000 in
set_option maxHeartbeats 4000000 in
theorem rx_X5_take_25_15 (d : Nat)  : pm_Rt pm_P (d + 1) 10 (hp0) [.ref 25, .ref 15] (hp0) none := by
  refine Rt_of aiX5_take (Nat.le_of_ble_eq_true rfl) ?_
  refine Go_st rfl rfl ?_
  refine Go_st rfl rfl ?_
  refine Go_st rfl rfl ?_
  refine Go_sm rfl rfl (sm_f rfl) ?_
  refine Go_st rfl rfl ?_
  refine Go_st rfl rfl ?_
  refine Go_st rfl rfl ?_
  refine Go_sm rfl rfl (sm_f rfl) ?_
  refine Go_st rfl rfl ?_
  refine Go_st rfl rfl ?_
  refine Go_st rfl rfl ?_
  refine Go_sm rfl rfl (sm_f rfl) ?_
  refine Go_st rfl rfl ?_
  refine Go_st rfl rfl ?_
  refine Go_st rfl rfl ?_
  refine Go_sm rfl rfl (sm_f rfl) ?_
  refine Go_st rfl rfl ?_
  refine Go_st rfl rfl ?_
  refine Go_st rfl rfl ?_
  refine Go_sm rfl rfl (sm_f rfl) ?_
  refine Go_st rfl rfl ?_
  refine Go_st rfl rfl ?_
  refine Go_st rfl rfl ?_
  refine Go_sm rfl rfl (sm_f rfl) ?_
  refine Go_st rfl rfl ?_
  refine Go_st rfl rfl ?_
  refine Go_st rfl rfl ?_
  refine Go_sm rfl rfl (sm_f rfl) ?_
  refine Go_st rfl rfl ?_
  refine Go_st rfl rfl ?_
  refine Go_st rfl rfl ?_
  refine Go_st rfl rfl ?_
  refine Go_st rfl rfl ?_
  refine Go_ifF (by decide +kernel) ?_
  refine Go_st rfl rfl ?_
  refine Go_st rfl rfl ?_
  refine Go_st rfl rfl ?_
  refine Go_st rfl rfl ?_
  refine Go_st rfl rfl ?_
  refine Go_st rfl rfl ?_
  refine Go_iald (v := 0) rfl rfl (by decide +kernel) (by decide +kernel) ?_
  refine Go_iast0 rfl rfl (by decide +kernel) ?_
  refine Go_st rfl rfl ?_
  refine Go_st rfl rfl ?_
  refine Go_st rfl rfl ?_
  refine Go_st rfl rfl ?_
  refine Go_st rfl rfl ?_
  refine Go_st rfl rfl ?_
  refine Go_iald (v := 0) rfl rfl (by decide +kernel) (by decide +kernel) ?_
  refine Go_iast0 rfl rfl (by decide +kernel) ?_
  refine Go_st rfl rfl ?_
  refine Go_st rfl rfl ?_
  refine Go_st rfl rfl ?_
  refine Go_st rfl rfl ?_
  refine Go_st rfl rfl ?_
  refine Go_st rfl rfl ?_
  refine Go_iald (v := 0) rfl rfl (by decide +kernel) (by decide +kernel) ?_
  refine Go_iast0 rfl rfl (by decide +kernel) ?_
  refine Go_st rfl rfl ?_
  refine Go_st rfl rfl ?_
  refine Go_st rfl rfl ?_
  refine Go_st rfl rfl ?_
  refine Go_st rfl rfl ?_
  refine Go_st rfl rfl ?_
  refine Go_iald (v := 0) rfl rfl (by decide +kernel) (by decide +kernel) ?_
  refine Go_iast0 rfl rfl (by decide +kernel) ?_
  refine Go_st rfl rfl ?_
  refine Go_st rfl rfl ?_
  refine Go_st rfl rfl ?_
  refine Go_st rfl rfl ?_
  refine Go_st rfl rfl ?_
  refine Go_st rfl rfl ?_
  refine Go_iald (v := 0) rfl rfl (by decide +kernel) (by decide +kernel) ?_
  refine Go_iast0 rfl rfl (by decide +kernel) ?_
  refine Go_inc (v := 1) rfl rfl (by decide +kernel) ?_
  refine Go_st rfl rfl ?_
  refine Go_st rfl rfl ?_
  refine Go_st rfl rfl ?_
  refine Go_st rfl rfl ?_
  refine Go_ifF (by decide +kernel) ?_
  refine Go_st rfl rfl ?_
  refine Go_st rfl rfl ?_
  refine Go_st rfl rfl ?_
  refine Go_st rfl rfl ?_
  refine Go_st rfl rfl ?_
  refine Go_st rfl rfl ?_
  refine Go_iald (v := 0) rfl rfl (by decide +kernel) (by decide +kernel) ?_
  refine Go_iast0 rfl rfl (by decide +kernel) ?_
  refine Go_st rfl rfl ?_
  refine Go_st rfl rfl ?_
  refine Go_st rfl rfl ?_
  refine Go_st rfl rfl ?_
  refine Go_st rfl rfl ?_
  refine Go_st rfl rfl ?_
  refine Go_iald (v := 0) rfl rfl (by decide +kernel) (by decide +kernel) ?_
  refine Go_iast0 rfl rfl (by decide +kernel) ?_
  refine Go_st rfl rfl ?_
  refine Go_st rfl rfl ?_
  refine Go_st rfl rfl ?_
  refine Go_st rfl rfl ?_
  refine Go_st rfl rfl ?_
  refine Go_st rfl rfl ?_
  refine Go_iald (v := 0) rfl rfl (by decide +kernel) (by decide +kernel) ?_
  refine Go_iast0 rfl rfl (by decide +kernel) ?_
  refine Go_st rfl rfl ?_
  refine Go_st rfl rfl ?_
  refine Go_st rfl rfl ?_
  refine Go_st rfl rfl ?_
  refine Go_st rfl rfl ?_
  refine Go_st rfl rfl ?_
  refine Go_iald (v := 0) rfl rfl (by decide +kernel) (by decide +kernel) ?_
  refine Go_iast0 rfl rfl (by decide +kernel) ?_
  refine Go_st rfl rfl ?_
  refine Go_st rfl rfl ?_
  refine Go_st rfl rfl ?_
  refine Go_st rfl rfl ?_
  refine Go_st rfl rfl ?_
  refine Go_st rfl rfl ?_
  refine Go_iald (v := 0) rfl rfl (by decide +kernel) (by decide +kernel) ?_
  refine Go_iast0 rfl rfl (by decide +kernel) ?_
  refine Go_inc (v := 2) rfl rfl (by decide +kernel) ?_
  refine Go_st rfl rfl ?_
  refine Go_st rfl rfl ?_
  refine Go_st rfl rfl ?_
  refine Go_st rfl rfl ?_
  refine Go_ifF (by decide +kernel) ?_
  refine Go_st rfl rfl ?_
  refine Go_st rfl rfl ?_
  refine Go_st rfl rfl ?_
  refine Go_st rfl rfl ?_
  refine Go_st rfl rfl ?_
  refine Go_st rfl rfl ?_
  refine Go_iald (v := 0) rfl rfl (by decide +kernel) (by decide +kernel) ?_
  refine Go_iast0 rfl rfl (by decide +kernel) ?_
  refine Go_st rfl rfl ?_
  refine Go_st rfl rfl ?_
  refine Go_st rfl rfl ?_
  refine Go_st rfl rfl ?_
  refine Go_st rfl rfl ?_
  refine Go_st rfl rfl ?_
  refine Go_iald (v := 0) rfl rfl (by decide +kernel) (by decide +kernel) ?_
  refine Go_iast0 rfl rfl (by decide +kernel) ?_
  refine Go_st rfl rfl ?_
  refine Go_st rfl rfl ?_
  refine Go_st rfl rfl ?_
  refine Go_st rfl rfl ?_
  refine Go_st rfl rfl ?_
  refine Go_st rfl rfl ?_
  refine Go_iald (v := 0) rfl rfl (by decide +kernel) (by decide +kernel) ?_
  refine Go_iast0 rfl rfl (by decide +kernel) ?_
  refine Go_st rfl rfl ?_
  refine Go_st rfl rfl ?_
  refine Go_st rfl rfl ?_
  refine Go_st rfl rfl ?_
  refine Go_st rfl rfl ?_
  refine Go_st rfl rfl ?_
  refine Go_iald (v := 0) rfl rfl (by decide +kernel) (by decide +kernel) ?_
  refine Go_iast0 rfl rfl (by decide +kernel) ?_
  refine Go_st rfl rfl ?_
  refine Go_st rfl rfl ?_
  refine Go_st rfl rfl ?_
  refine Go_st rfl rfl ?_
  refine Go_st rfl rfl ?_
  refine Go_st rfl rfl ?_
  refine Go_iald (v := 0) rfl rfl (by decide +kernel) (by decide +kernel) ?_
  refine Go_iast0 rfl rfl (by decide +kernel) ?_
  refine Go_inc (v := 3) rfl rfl (by decide +kernel) ?_
  refine Go_st rfl rfl ?_
  refine Go_st rfl rfl ?_
  refine Go_st rfl rfl ?_
  refine Go_st rfl rfl ?_
  refine Go_ifF (by decide +kernel) ?_
  refine Go_st rfl rfl ?_
  refine Go_st rfl rfl ?_
  refine Go_st rfl rfl ?_
  refine Go_st rfl rfl ?_
  refine Go_st rfl rfl ?_
  refine Go_st rfl rfl ?_
  refine Go_iald (v := 0) rfl rfl (by decide +kernel) (by decide +kernel) ?_
  refine Go_iast0 rfl rfl (by decide +kernel) ?_
  refine Go_st rfl rfl ?_
  refine Go_st rfl rfl ?_
  refine Go_st rfl rfl ?_
  refine Go_st rfl rfl ?_
  refine Go_st rfl rfl ?_
  refine Go_st rfl rfl ?_
  refine Go_iald (v := 0) rfl rfl (by decide +kernel) (by decide +kernel) ?_
  refine Go_iast0 rfl rfl (by decide +kernel) ?_
  refine Go_st rfl rfl ?_
  refine Go_st rfl rfl ?_
  refine Go_st rfl rfl ?_
  refine Go_st rfl rfl ?_
  refine Go_st rfl rfl ?_
  refine Go_st rfl rfl ?_
  refine Go_iald (v := 0) rfl rfl (by decide +kernel) (by decide +kernel) ?_
  refine Go_iast0 rfl rfl (by decide +kernel) ?_
  refine Go_st rfl rfl ?_
  refine Go_st rfl rfl ?_
  refine Go_st rfl rfl ?_
  refine Go_st rfl rfl ?_
  refine Go_st rfl rfl ?_
  refine Go_st rfl rfl ?_
  refine Go_iald (v := 0) rfl rfl (by decide +kernel) (by decide +kernel) ?_
  refine Go_iast0 rfl rfl (by decide +kernel) ?_
  refine Go_st rfl rfl ?_
  refine Go_st rfl rfl ?_
  refine Go_st rfl rfl ?_
  refine Go_st rfl rfl ?_
  refine Go_st rfl rfl ?_
  refine Go_st rfl rfl ?_
  refine Go_iald (v := 0) rfl rfl (by decide +kernel) (by decide +kernel) ?_
  refine Go_iast0 rfl rfl (by decide +kernel) ?_
  refine Go_inc (v := 4) rfl rfl (by decide +kernel) ?_
  refine Go_st rfl rfl ?_
  refine Go_st rfl rfl ?_
  refine Go_st rfl rfl ?_
  refine Go_st rfl rfl ?_
  refine Go_ifF (by decide +kernel) ?_
  refine Go_st rfl rfl ?_
  refine Go_st rfl rfl ?_
  refine Go_st rfl rfl ?_
  refine Go_st rfl rfl ?_
  refine Go_st rfl rfl ?_
  refine Go_st rfl rfl ?_
  refine Go_iald (v := 0) rfl rfl (by decide +kernel) (by decide +kernel) ?_
  refine Go_iast0 rfl rfl (by decide +kernel) ?_
  refine Go_st rfl rfl ?_
  refine Go_st rfl rfl ?_
  refine Go_st rfl rfl ?_
  refine Go_st rfl rfl ?_
  refine Go_st rfl rfl ?_
  refine Go_st rfl rfl ?_
  refine Go_iald (v := 0) rfl rfl (by decide +kernel) (by decide +kernel) ?_
  refine Go_iast0 rfl rfl (by decide +kernel) ?_
  refine Go_st rfl rfl ?_
  refine Go_st rfl rfl ?_
  refine Go_st rfl rfl ?_
  refine Go_st rfl rfl ?_
  refine Go_st rfl rfl ?_
  refine Go_st rfl rfl ?_
  refine Go_iald (v := 0) rfl rfl (by decide +kernel) (by decide +kernel) ?_
  refine Go_iast0 rfl rfl (by decide +kernel) ?_
  refine Go_st rfl rfl ?_
  refine Go_st rfl rfl ?_
  refine Go_st rfl rfl ?_
  refine Go_st rfl rfl ?_
  refine Go_st rfl rfl ?_
  refine Go_st rfl rfl ?_
  refine Go_iald (v := 0) rfl rfl (by decide +kernel) (by decide +kernel) ?_
  refine Go_iast0 rfl rfl (by decide +kernel) ?_
  refine Go_st rfl rfl ?_
  refine Go_st rfl rfl ?_
  refine Go_st rfl rfl ?_
  refine Go_st rfl rfl ?_
  refine Go_st rfl rfl ?_
  refine Go_st rfl rfl ?_
  refine Go_iald (v := 0) rfl rfl (by decide +kernel) (by decide +kernel) ?_
  refine Go_iast0 rfl rfl (by decide +kernel) ?_
  refine Go_inc (v := 5) rfl rfl (by decide +kernel) ?_
  refine Go_st rfl rfl ?_
  refine Go_st rfl rfl ?_
  refine Go_st rfl rfl ?_
  refine Go_st rfl rfl ?_
  refine Go_ifF (by decide +kernel) ?_
  refine Go_st rfl rfl ?_
  refine Go_st rfl rfl ?_
  refine Go_st rfl rfl ?_
  refine Go_st rfl rfl ?_
  refine Go_st rfl rfl ?_
  refine Go_st rfl rfl ?_
  refine Go_iald (v := 0) rfl rfl (by decide +kernel) (by decide +kernel) ?_
  refine Go_iast0 rfl rfl (by decide +kernel) ?_
  refine Go_st rfl rfl ?_
  refine Go_st rfl rfl ?_
  refine Go_st rfl rfl ?_
  refine Go_st rfl rfl ?_
  refine Go_st rfl rfl ?_
  refine Go_st rfl rfl ?_
  refine Go_iald (v := 0) rfl rfl (by decide +kernel) (by decide +kernel) ?_
  refine Go_iast0 rfl rfl (by decide +kernel) ?_
  refine Go_st rfl rfl ?_
  refine Go_st rfl rfl ?_
  refine Go_st rfl rfl ?_
  refine Go_st rfl rfl ?_
  refine Go_st rfl rfl ?_
  refine Go_st rfl rfl ?_
  refine Go_iald (v := 0) rfl rfl (by decide +kernel) (by decide +kernel) ?_
  refine Go_iast0 rfl rfl (by decide +kernel) ?_
  refine Go_st rfl rfl ?_
  refine Go_st rfl rfl ?_
  refine Go_st rfl rfl ?_
  refine Go_st rfl rfl ?_
  refine Go_st rfl rfl ?_
  refine Go_st rfl rfl ?_
  refine Go_iald (v := 0) rfl rfl (by decide +kernel) (by decide +kernel) ?_
  refine Go_iast0 rfl rfl (by decide +kernel) ?_
  refine Go_st rfl rfl ?_
  refine Go_st rfl rfl ?_
  refine Go_st rfl rfl ?_
  refine Go_st rfl rfl ?_
  refine Go_st rfl rfl ?_
  refine Go_st rfl rfl ?_
  refine Go_iald (v := 0) rfl rfl (by decide +kernel) (by decide +kernel) ?_
  refine Go_iast0 rfl rfl (by decide +kernel) ?_
  refine Go_inc (v := 6) rfl rfl (by decide +kernel) ?_
  refine Go_st rfl rfl ?_
  refine Go_st rfl rfl ?_
  refine Go_st rfl rfl ?_
  refine Go_st rfl rfl ?_
  refine Go_ifF (by decide +kernel) ?_
  refine Go_st rfl rfl ?_
  refine Go_st rfl rfl ?_
  refine Go_st rfl rfl ?_
  refine Go_st rfl rfl ?_
  refine Go_st rfl rfl ?_
  refine Go_st rfl rfl ?_
  refine Go_iald (v := 0) rfl rfl (by decide +kernel) (by decide +kernel) ?_
  refine Go_iast0 rfl rfl (by decide +kernel) ?_
  refine Go_st rfl rfl ?_
  refine Go_st rfl rfl ?_
  refine Go_st rfl rfl ?_
  refine Go_st rfl rfl ?_
  refine Go_st rfl rfl ?_
  refine Go_st rfl rfl ?_
  refine Go_iald (v := 0) rfl rfl (by decide +kernel) (by decide +kernel) ?_
  refine Go_iast0 rfl rfl (by decide +kernel) ?_
  refine Go_st rfl rfl ?_
  refine Go_st rfl rfl ?_
  refine Go_st rfl rfl ?_
  refine Go_st rfl rfl ?_
  refine Go_st rfl rfl ?_
  refine Go_st rfl rfl ?_
  refine Go_iald (v := 0) rfl rfl (by decide +kernel) (by decide +kernel) ?_
  refine Go_iast0 rfl rfl (by decide +kernel) ?_
  refine Go_st rfl rfl ?_
  refine Go_st rfl rfl ?_
  refine Go_st rfl rfl ?_
  refine Go_st rfl rfl ?_
  refine Go_st rfl rfl ?_
  refine Go_st rfl rfl ?_
  refine Go_iald (v := 0) rfl rfl (by decide +kernel) (by decide +kernel) ?_
  refine Go_iast0 rfl rfl (by decide +kernel) ?_
  refine Go_st rfl rfl ?_
  refine Go_st rfl rfl ?_
  refine Go_st rfl rfl ?_
  refine Go_st rfl rfl ?_
  refine Go_st rfl rfl ?_
  refine Go_st rfl rfl ?_
  refine Go_iald (v := 0) rfl rfl (by decide +kernel) (by decide +kernel) ?_
  refine Go_iast0 rfl rfl (by decide +kernel) ?_
  refine Go_inc (v := 7) rfl rfl (by decide +kernel) ?_
  refine Go_st rfl rfl ?_
  refine Go_st rfl rfl ?_
  refine Go_st rfl rfl ?_
  refine Go_st rfl rfl ?_
  refine Go_ifF (by decide +kernel) ?_
  refine Go_st rfl rfl ?_
  refine Go_st rfl rfl ?_
  refine Go_st rfl rfl ?_
  refine Go_st rfl rfl ?_
  refine Go_st rfl rfl ?_
  refine Go_st rfl rfl ?_
  refine Go_iald (v := 0) rfl rfl (by decide +kernel) (by decide +kernel) ?_
  refine Go_iast0 rfl rfl (by decide +kernel) ?_
  refine Go_st rfl rfl ?_
  refine Go_st rfl rfl ?_
  refine Go_st rfl rfl ?_
  refine Go_st rfl rfl ?_
  refine Go_st rfl rfl ?_
  refine Go_st rfl rfl ?_
  refine Go_iald (v := 0) rfl rfl (by decide +kernel) (by decide +kernel) ?_
  refine Go_iast0 rfl rfl (by decide +kernel) ?_
  refine Go_st rfl rfl ?_
  refine Go_st rfl rfl ?_
  refine Go_st rfl rfl ?_
  refine Go_st rfl rfl ?_
  refine Go_st rfl rfl ?_
  refine Go_st rfl rfl ?_
  refine Go_iald (v := 0) rfl rfl (by decide +kernel) (by decide +kernel) ?_
  refine Go_iast0 rfl rfl (by decide +kernel) ?_
  refine Go_st rfl rfl ?_
  refine Go_st rfl rfl ?_
  refine Go_st rfl rfl ?_
  refine Go_st rfl rfl ?_
  refine Go_st rfl rfl ?_
  refine Go_st rfl rfl ?_
  refine Go_iald (v := 0) rfl rfl (by decide +kernel) (by decide +kernel) ?_
  refine Go_iast0 rfl rfl (by decide +kernel) ?_
  refine Go_st rfl rfl ?_
  refine Go_st rfl rfl ?_
  refine Go_st rfl rfl ?_
  refine Go_st rfl rfl ?_
  refine Go_st rfl rfl ?_
  refine Go_st rfl rfl ?_
  refine Go_iald (v := 0) rfl rfl (by decide +kernel) (by decide +kernel) ?_
  refine Go_iast0 rfl rfl (by decide +kernel) ?_
  refine Go_inc (v := 8) rfl rfl (by decide +kernel) ?_
  refine Go_st rfl rfl ?_
  refine Go_st rfl rfl ?_
  refine Go_st rfl rfl ?_
  refine Go_st rfl rfl ?_
  refine Go_ifT (by decide +kernel) ?_
  refine Go_st rfl rfl ?_
  refine Go_st rfl rfl ?_
  refine Go_st rfl rfl ?_
  refine Go_st rfl rfl ?_
  refine Go_st rfl rfl ?_
  refine Go_ifF (by decide +kernel) ?_
  refine Go_st rfl rfl ?_
  refine Go_st rfl rfl ?_
  refine Go_st rfl rfl ?_
  refine Go_st rfl rfl ?_
  refine Go_st rfl rfl ?_
  refine Go_st rfl rfl ?_
  refine Go_iald (v := 0) rfl rfl (by decide +kernel) (by decide +kernel) ?_
  refine Go_iast0 rfl rfl (by decide +kernel) ?_
  refine Go_st rfl rfl ?_
  refine Go_st rfl rfl ?_
  refine Go_st rfl rfl ?_
  refine Go_st rfl rfl ?_
  refine Go_st rfl rfl ?_
  refine Go_st rfl rfl ?_
  refine Go_iald (v := 0) rfl rfl (by decide +kernel) (by decide +kernel) ?_
  refine Go_iast0 rfl rfl (by decide +kernel) ?_
  refine Go_st rfl rfl ?_
  refine Go_st rfl rfl ?_
  refine Go_st rfl rfl ?_
  refine Go_st rfl rfl ?_
  refine Go_st rfl rfl ?_
  refine Go_st rfl rfl ?_
  refine Go_zald (v := 0) rfl rfl (by decide +kernel) (by decide +kernel) ?_
  refine Go_zast0 rfl rfl (by decide +kernel) ?_
  refine Go_inc (v := 1) rfl rfl (by decide +kernel) ?_
  refine Go_st rfl rfl ?_
  refine Go_st rfl rfl ?_
  refine Go_st rfl rfl ?_
  refine Go_st rfl rfl ?_
  refine Go_ifF (by decide +kernel) ?_
  refine Go_st rfl rfl ?_
  refine Go_st rfl rfl ?_
  refine Go_st rfl rfl ?_
  refine Go_st rfl rfl ?_
  refine Go_st rfl rfl ?_
  refine Go_st rfl rfl ?_
  refine Go_iald (v := 0) rfl rfl (by decide +kernel) (by decide +kernel) ?_
  refine Go_iast0 rfl rfl (by decide +kernel) ?_
  refine Go_st rfl rfl ?_
  refine Go_st rfl rfl ?_
  refine Go_st rfl rfl ?_
  refine Go_st rfl rfl ?_
  refine Go_st rfl rfl ?_
  refine Go_st rfl rfl ?_
  refine Go_iald (v := 0) rfl rfl (by decide +kernel) (by decide +kernel) ?_
  refine Go_iast0 rfl rfl (by decide +kernel) ?_
  refine Go_st rfl rfl ?_
  refine Go_st rfl rfl ?_
  refine Go_st rfl rfl ?_
  refine Go_st rfl rfl ?_
  refine Go_st rfl rfl ?_
  refine Go_st rfl rfl ?_
  refine Go_zald (v := 0) rfl rfl (by decide +kernel) (by decide +kernel) ?_
  refine Go_zast0 rfl rfl (by decide +kernel) ?_
  refine Go_inc (v := 2) rfl rfl (by decide +kernel) ?_
  refine Go_st rfl rfl ?_
  refine Go_st rfl rfl ?_
  refine Go_st rfl rfl ?_
  refine Go_st rfl rfl ?_
  refine Go_ifF (by decide +kernel) ?_
  refine Go_st rfl rfl ?_
  refine Go_st rfl rfl ?_
  refine Go_st rfl rfl ?_
  refine Go_st rfl rfl ?_
  refine Go_st rfl rfl ?_
  refine Go_st rfl rfl ?_
  refine Go_iald (v := 0) rfl rfl (by decide +kernel) (by decide +kernel) ?_
  refine Go_iast0 rfl rfl (by decide +kernel) ?_
  refine Go_st rfl rfl ?_
  refine Go_st rfl rfl ?_
  refine Go_st rfl rfl ?_
  refine Go_st rfl rfl ?_
  refine Go_st rfl rfl ?_
  refine Go_st rfl rfl ?_
  refine Go_iald (v := 0) rfl rfl (by decide +kernel) (by decide +kernel) ?_
  refine Go_iast0 rfl rfl (by decide +kernel) ?_
  refine Go_st rfl rfl ?_
  refine Go_st rfl rfl ?_
  refine Go_st rfl rfl ?_
  refine Go_st rfl rfl ?_
  refine Go_st rfl rfl ?_
  refine Go_st rfl rfl ?_
  refine Go_zald (v := 0) rfl rfl (by decide +kernel) (by decide +kernel) ?_
  refine Go_zast0 rfl rfl (by decide +kernel) ?_
  refine Go_inc (v := 3) rfl rfl (by decide +kernel) ?_
  refine Go_st rfl rfl ?_
  refine Go_st rfl rfl ?_
  refine Go_st rfl rfl ?_
  refine Go_st rfl rfl ?_
  refine Go_ifF (by decide +kernel) ?_
  refine Go_st rfl rfl ?_
  refine Go_st rfl rfl ?_
  refine Go_st rfl rfl ?_
  refine Go_st rfl rfl ?_
  refine Go_st rfl rfl ?_
  refine Go_st rfl rfl ?_
  refine Go_iald (v := 0) rfl rfl (by decide +kernel) (by decide +kernel) ?_
  refine Go_iast0 rfl rfl (by decide +kernel) ?_
  refine Go_st rfl rfl ?_
  refine Go_st rfl rfl ?_
  refine Go_st rfl rfl ?_
  refine Go_st rfl rfl ?_
  refine Go_st rfl rfl ?_
  refine Go_st rfl rfl ?_
  refine Go_iald (v := 0) rfl rfl (by decide +kernel) (by decide +kernel) ?_
  refine Go_iast0 rfl rfl (by decide +kernel) ?_
  refine Go_st rfl rfl ?_
  refine Go_st rfl rfl ?_
  refine Go_st rfl rfl ?_
  refine Go_st rfl rfl ?_
  refine Go_st rfl rfl ?_
  refine Go_st rfl rfl ?_
  refine Go_zald (v := 0) rfl rfl (by decide +kernel) (by decide +kernel) ?_
  refine Go_zast0 rfl rfl (by decide +kernel) ?_
  refine Go_inc (v := 4) rfl rfl (by decide +kernel) ?_
  refine Go_st rfl rfl ?_
  refine Go_st rfl rfl ?_
  refine Go_st rfl rfl ?_
  refine Go_st rfl rfl ?_
  refine Go_ifF (by decide +kernel) ?_
  refine Go_st rfl rfl ?_
  refine Go_st rfl rfl ?_
  refine Go_st rfl rfl ?_
  refine Go_st rfl rfl ?_
  refine Go_st rfl rfl ?_
  refine Go_st rfl rfl ?_
  refine Go_iald (v := 0) rfl rfl (by decide +kernel) (by decide +kernel) ?_
  refine Go_iast0 rfl rfl (by decide +kernel) ?_
  refine Go_st rfl rfl ?_
  refine Go_st rfl rfl ?_
  refine Go_st rfl rfl ?_
  refine Go_st rfl rfl ?_
  refine Go_st rfl rfl ?_
  refine Go_st rfl rfl ?_
  refine Go_iald (v := 0) rfl rfl (by decide +kernel) (by decide +kernel) ?_
  refine Go_iast0 rfl rfl (by decide +kernel) ?_
  refine Go_st rfl rfl ?_
  refine Go_st rfl rfl ?_
  refine Go_st rfl rfl ?_
  refine Go_st rfl rfl ?_
  refine Go_st rfl rfl ?_
  refine Go_st rfl rfl ?_
  refine Go_zald (v := 0) rfl rfl (by decide +kernel) (by decide +kernel) ?_
  refine Go_zast0 rfl rfl (by decide +kernel) ?_
  refine Go_inc (v := 5) rfl rfl (by decide +kernel) ?_
  refine Go_st rfl rfl ?_
  refine Go_st rfl rfl ?_
  refine Go_st rfl rfl ?_
  refine Go_st rfl rfl ?_
  refine Go_ifF (by decide +kernel) ?_
  refine Go_st rfl rfl ?_
  refine Go_st rfl rfl ?_
  refine Go_st rfl rfl ?_
  refine Go_st rfl rfl ?_
  refine Go_st rfl rfl ?_
  refine Go_st rfl rfl ?_
  refine Go_iald (v := 0) rfl rfl (by decide +kernel) (by decide +kernel) ?_
  refine Go_iast0 rfl rfl (by decide +kernel) ?_
  refine Go_st rfl rfl ?_
  refine Go_st rfl rfl ?_
  refine Go_st rfl rfl ?_
  refine Go_st rfl rfl ?_
  refine Go_st rfl rfl ?_
  refine Go_st rfl rfl ?_
  refine Go_iald (v := 0) rfl rfl (by decide +kernel) (by decide +kernel) ?_
  refine Go_iast0 rfl rfl (by decide +kernel) ?_
  refine Go_st rfl rfl ?_
  refine Go_st rfl rfl ?_
  refine Go_st rfl rfl ?_
  refine Go_st rfl rfl ?_
  refine Go_st rfl rfl ?_
  refine Go_st rfl rfl ?_
  refine Go_zald (v := 0) rfl rfl (by decide +kernel) (by decide +kernel) ?_
  refine Go_zast0 rfl rfl (by decide +kernel) ?_
  refine Go_inc (v := 6) rfl rfl (by decide +kernel) ?_
  refine Go_st rfl rfl ?_
  refine Go_st rfl rfl ?_
  refine Go_st rfl rfl ?_
  refine Go_st rfl rfl ?_
  refine Go_ifF (by decide +kernel) ?_
  refine Go_st rfl rfl ?_
  refine Go_st rfl rfl ?_
  refine Go_st rfl rfl ?_
  refine Go_st rfl rfl ?_
  refine Go_st rfl rfl ?_
  refine Go_st rfl rfl ?_
  refine Go_iald (v := 0) rfl rfl (by decide +kernel) (by decide +kernel) ?_
  refine Go_iast0 rfl rfl (by decide +kernel) ?_
  refine Go_st rfl rfl ?_
  refine Go_st rfl rfl ?_
  refine Go_st rfl rfl ?_
  refine Go_st rfl rfl ?_
  refine Go_st rfl rfl ?_
  refine Go_st rfl rfl ?_
  refine Go_iald (v := 0) rfl rfl (by decide +kernel) (by decide +kernel) ?_
  refine Go_iast0 rfl rfl (by decide +kernel) ?_
  refine Go_st rfl rfl ?_
  refine Go_st rfl rfl ?_
  refine Go_st rfl rfl ?_
  refine Go_st rfl rfl ?_
  refine Go_st rfl rfl ?_
  refine Go_st rfl rfl ?_
  refine Go_zald (v := 0) rfl rfl (by decide +kernel) (by decide +kernel) ?_
  refine Go_zast0 rfl rfl (by decide +kernel) ?_
  refine Go_inc (v := 7) rfl rfl (by decide +kernel) ?_
  refine Go_st rfl rfl ?_
  refine Go_st rfl rfl ?_
  refine Go_st rfl rfl ?_
  refine Go_st rfl rfl ?_
  refine Go_ifF (by decide +kernel) ?_
  refine Go_st rfl rfl ?_
  refine Go_st rfl rfl ?_
  refine Go_st rfl rfl ?_
  refine Go_st rfl rfl ?_
  refine Go_st rfl rfl ?_
  refine Go_st rfl rfl ?_
  refine Go_iald (v := 0) rfl rfl (by decide +kernel) (by decide +kernel) ?_
  refine Go_iast0 rfl rfl (by decide +kernel) ?_
  refine Go_st rfl rfl ?_
  refine Go_st rfl rfl ?_
  refine Go_st rfl rfl ?_
  refine Go_st rfl rfl ?_
  refine Go_st rfl rfl ?_
  refine Go_st rfl rfl ?_
  refine Go_iald (v := 0) rfl rfl (by decide +kernel) (by decide +kernel) ?_
  refine Go_iast0 rfl rfl (by decide +kernel) ?_
  refine Go_st rfl rfl ?_
  refine Go_st rfl rfl ?_
  refine Go_st rfl rfl ?_
  refine Go_st rfl rfl ?_
  refine Go_st rfl rfl ?_
  refine Go_st rfl rfl ?_
  refine Go_zald (v := 0) rfl rfl (by decide +kernel) (by decide +kernel) ?_
  refine Go_zast0 rfl rfl (by decide +kernel) ?_
  refine Go_inc (v := 8) rfl rfl (by decide +kernel) ?_
  refine Go_st rfl rfl ?_
  refine Go_st rfl rfl ?_
  refine Go_st rfl rfl ?_
  refine Go_st rfl rfl ?_
  refine Go_ifF (by decide +kernel) ?_
  refine Go_st rfl rfl ?_
  refine Go_st rfl rfl ?_
  refine Go_st rfl rfl ?_
  refine Go_st rfl rfl ?_
  refine Go_st rfl rfl ?_
  refine Go_st rfl rfl ?_
  refine Go_iald (v := 0) rfl rfl (by decide +kernel) (by decide +kernel) ?_
  refine Go_iast0 rfl rfl (by decide +kernel) ?_
  refine Go_st rfl rfl ?_
  refine Go_st rfl rfl ?_
  refine Go_st rfl rfl ?_
  refine Go_st rfl rfl ?_
  refine Go_st rfl rfl ?_
  refine Go_st rfl rfl ?_
  refine Go_iald (v := 0) rfl rfl (by decide +kernel) (by decide +kernel) ?_
  refine Go_iast0 rfl rfl (by decide +kernel) ?_
  refine Go_st rfl rfl ?_
  refine Go_st rfl rfl ?_
  refine Go_st rfl rfl ?_
  refine Go_st rfl rfl ?_
  refine Go_st rfl rfl ?_
  refine Go_st rfl rfl ?_
  refine Go_zald (v := 0) rfl rfl (by decide +kernel) (by decide +kernel) ?_
  refine Go_zast0 rfl rfl (by decide +kernel) ?_
  refine Go_inc (v := 9) rfl rfl (by decide +kernel) ?_
  refine Go_st rfl rfl ?_
  refine Go_st rfl rfl ?_
  refine Go_st rfl rfl ?_
  refine Go_st rfl rfl ?_
  refine Go_ifF (by decide +kernel) ?_
  refine Go_st rfl rfl ?_
  refine Go_st rfl rfl ?_
  refine Go_st rfl rfl ?_
  refine Go_st rfl rfl ?_
  refine Go_st rfl rfl ?_
  refine Go_st rfl rfl ?_
  refine Go_iald (v := 0) rfl rfl (by decide +kernel) (by decide +kernel) ?_
  refine Go_iast0 rfl rfl (by decide +kernel) ?_
  refine Go_st rfl rfl ?_
  refine Go_st rfl rfl ?_
  refine Go_st rfl rfl ?_
  refine Go_st rfl rfl ?_
  refine Go_st rfl rfl ?_
  refine Go_st rfl rfl ?_
  refine Go_iald (v := 0) rfl rfl (by decide +kernel) (by decide +kernel) ?_
  refine Go_iast0 rfl rfl (by decide +kernel) ?_
  refine Go_st rfl rfl ?_
  refine Go_st rfl rfl ?_
  refine Go_st rfl rfl ?_
  refine Go_st rfl rfl ?_
  refine Go_st rfl rfl ?_
  refine Go_st rfl rfl ?_
  refine Go_zald (v := 0) rfl rfl (by decide +kernel) (by decide +kernel) ?_
  refine Go_zast0 rfl rfl (by decide +kernel) ?_
  refine Go_inc (v := 10) rfl rfl (by decide +kernel) ?_
  refine Go_st rfl rfl ?_
  refine Go_st rfl rfl ?_
  refine Go_st rfl rfl ?_
  refine Go_st rfl rfl ?_
  refine Go_ifF (by decide +kernel) ?_
  refine Go_st rfl rfl ?_
  refine Go_st rfl rfl ?_
  refine Go_st rfl rfl ?_
  refine Go_st rfl rfl ?_
  refine Go_st rfl rfl ?_
  refine Go_st rfl rfl ?_
  refine Go_iald (v := 0) rfl rfl (by decide +kernel) (by decide +kernel) ?_
  refine Go_iast0 rfl rfl (by decide +kernel) ?_
  refine Go_st rfl rfl ?_
  refine Go_st rfl rfl ?_
  refine Go_st rfl rfl ?_
  refine Go_st rfl rfl ?_
  refine Go_st rfl rfl ?_
  refine Go_st rfl rfl ?_
  refine Go_iald (v := 0) rfl rfl (by decide +kernel) (by decide +kernel) ?_
  refine Go_iast0 rfl rfl (by decide +kernel) ?_
  refine Go_st rfl rfl ?_
  refine Go_st rfl rfl ?_
  refine Go_st rfl rfl ?_
  refine Go_st rfl rfl ?_
  refine Go_st rfl rfl ?_
  refine Go_st rfl rfl ?_
  refine Go_zald (v := 0) rfl rfl (by decide +kernel) (by decide +kernel) ?_
  refine Go_zast0 rfl rfl (by decide +kernel) ?_
  refine Go_inc (v := 11) rfl rfl (by decide +kernel) ?_
  refine Go_st rfl rfl ?_
  refine Go_st rfl rfl ?_
  refine Go_st rfl rfl ?_
  refine Go_st rfl rfl ?_
  refine Go_ifF (by decide +kernel) ?_
  refine Go_st rfl rfl ?_
  refine Go_st rfl rfl ?_
  refine Go_st rfl rfl ?_
  refine Go_st rfl rfl ?_
  refine Go_st rfl rfl ?_
  refine Go_st rfl rfl ?_
  refine Go_iald (v := 0) rfl rfl (by decide +kernel) (by decide +kernel) ?_
  refine Go_iast0 rfl rfl (by decide +kernel) ?_
  refine Go_st rfl rfl ?_
  refine Go_st rfl rfl ?_
  refine Go_st rfl rfl ?_
  refine Go_st rfl rfl ?_
  refine Go_st rfl rfl ?_
  refine Go_st rfl rfl ?_
  refine Go_iald (v := 0) rfl rfl (by decide +kernel) (by decide +kernel) ?_
  refine Go_iast0 rfl rfl (by decide +kernel) ?_
  refine Go_st rfl rfl ?_
  refine Go_st rfl rfl ?_
  refine Go_st rfl rfl ?_
  refine Go_st rfl rfl ?_
  refine Go_st rfl rfl ?_
  refine Go_st rfl rfl ?_
  refine Go_zald (v := 0) rfl rfl (by decide +kernel) (by decide +kernel) ?_
  refine Go_zast0 rfl rfl (by decide +kernel) ?_
  refine Go_inc (v := 12) rfl rfl (by decide +kernel) ?_
  refine Go_st rfl rfl ?_
  refine Go_st rfl rfl ?_
  refine Go_st rfl rfl ?_
  refine Go_st rfl rfl ?_
  refine Go_ifF (by decide +kernel) ?_
  refine Go_st rfl rfl ?_
  refine Go_st rfl rfl ?_
  refine Go_st rfl rfl ?_
  refine Go_st rfl rfl ?_
  refine Go_st rfl rfl ?_
  refine Go_st rfl rfl ?_
  refine Go_iald (v := 0) rfl rfl (by decide +kernel) (by decide +kernel) ?_
  refine Go_iast0 rfl rfl (by decide +kernel) ?_
  refine Go_st rfl rfl ?_
  refine Go_st rfl rfl ?_
  refine Go_st rfl rfl ?_
  refine Go_st rfl rfl ?_
  refine Go_st rfl rfl ?_
  refine Go_st rfl rfl ?_
  refine Go_iald (v := 0) rfl rfl (by decide +kernel) (by decide +kernel) ?_
  refine Go_iast0 rfl rfl (by decide +kernel) ?_
  refine Go_st rfl rfl ?_
  refine Go_st rfl rfl ?_
  refine Go_st rfl rfl ?_
  refine Go_st rfl rfl ?_
  refine Go_st rfl rfl ?_
  refine Go_st rfl rfl ?_
  refine Go_zald (v := 0) rfl rfl (by decide +kernel) (by decide +kernel) ?_
  refine Go_zast0 rfl rfl (by decide +kernel) ?_
  refine Go_inc (v := 13) rfl rfl (by decide +kernel) ?_
  refine Go_st rfl rfl ?_
  refine Go_st rfl rfl ?_
  refine Go_st rfl rfl ?_
  refine Go_st rfl rfl ?_
  refine Go_ifF (by decide +kernel) ?_
  refine Go_st rfl rfl ?_
  refine Go_st rfl rfl ?_
  refine Go_st rfl rfl ?_
  refine Go_st rfl rfl ?_
  refine Go_st rfl rfl ?_
  refine Go_st rfl rfl ?_
  refine Go_iald (v := 0) rfl rfl (by decide +kernel) (by decide +kernel) ?_
  refine Go_iast0 rfl rfl (by decide +kernel) ?_
  refine Go_st rfl rfl ?_
  refine Go_st rfl rfl ?_
  refine Go_st rfl rfl ?_
  refine Go_st rfl rfl ?_
  refine Go_st rfl rfl ?_
  refine Go_st rfl rfl ?_
  refine Go_iald (v := 0) rfl rfl (by decide +kernel) (by decide +kernel) ?_
  refine Go_iast0 rfl rfl (by decide +kernel) ?_
  refine Go_st rfl rfl ?_
  refine Go_st rfl rfl ?_
  refine Go_st rfl rfl ?_
  refine Go_st rfl rfl ?_
  refine Go_st rfl rfl ?_
  refine Go_st rfl rfl ?_
  refine Go_zald (v := 0) rfl rfl (by decide +kernel) (by decide +kernel) ?_
  refine Go_zast0 rfl rfl (by decide +kernel) ?_
  refine Go_inc (v := 14) rfl rfl (by decide +kernel) ?_
  refine Go_st rfl rfl ?_
  refine Go_st rfl rfl ?_
  refine Go_st rfl rfl ?_
  refine Go_st rfl rfl ?_
  refine Go_ifF (by decide +kernel) ?_
  refine Go_st rfl rfl ?_
  refine Go_st rfl rfl ?_
  refine Go_st rfl rfl ?_
  refine Go_st rfl rfl ?_
  refine Go_st rfl rfl ?_
  refine Go_st rfl rfl ?_
  refine Go_iald (v := 0) rfl rfl (by decide +kernel) (by decide +kernel) ?_
  refine Go_iast0 rfl rfl (by decide +kernel) ?_
  refine Go_st rfl rfl ?_
  refine Go_st rfl rfl ?_
  refine Go_st rfl rfl ?_
  refine Go_st rfl rfl ?_
  refine Go_st rfl rfl ?_
  refine Go_st rfl rfl ?_
  refine Go_iald (v := 0) rfl rfl (by decide +kernel) (by decide +kernel) ?_
  refine Go_iast0 rfl rfl (by decide +kernel) ?_
  refine Go_st rfl rfl ?_
  refine Go_st rfl rfl ?_
  refine Go_st rfl rfl ?_
  refine Go_st rfl rfl ?_
  refine Go_st rfl rfl ?_
  refine Go_st rfl rfl ?_
  refine Go_zald (v := 0) rfl rfl (by decide +kernel) (by decide +kernel) ?_
  refine Go_zast0 rfl rfl (by decide +kernel) ?_
  refine Go_inc (v := 15) rfl rfl (by decide +kernel) ?_
  refine Go_st rfl rfl ?_
  refine Go_st rfl rfl ?_
  refine Go_st rfl rfl ?_
  refine Go_st rfl rfl ?_
  refine Go_ifF (by decide +kernel) ?_
  refine Go_st rfl rfl ?_
  refine Go_st rfl rfl ?_
  refine Go_st rfl rfl ?_
  refine Go_st rfl rfl ?_
  refine Go_st rfl rfl ?_
  refine Go_st rfl rfl ?_
  refine Go_iald (v := 0) rfl rfl (by decide +kernel) (by decide +kernel) ?_
  refine Go_iast0 rfl rfl (by decide +kernel) ?_
  refine Go_st rfl rfl ?_
  refine Go_st rfl rfl ?_
  refine Go_st rfl rfl ?_
  refine Go_st rfl rfl ?_
  refine Go_st rfl rfl ?_
  refine Go_st rfl rfl ?_
  refine Go_iald (v := 0) rfl rfl (by decide +kernel) (by decide +kernel) ?_
  refine Go_iast0 rfl rfl (by decide +kernel) ?_
  refine Go_st rfl rfl ?_
  refine Go_st rfl rfl ?_
  refine Go_st rfl rfl ?_
  refine Go_st rfl rfl ?_
  refine Go_st rfl rfl ?_
  refine Go_st rfl rfl ?_
  refine Go_zald (v := 0) rfl rfl (by decide +kernel) (by decide +kernel) ?_
  refine Go_zast0 rfl rfl (by decide +kernel) ?_
  refine Go_inc (v := 16) rfl rfl (by decide +kernel) ?_
  refine Go_st rfl rfl ?_
  refine Go_st rfl rfl ?_
  refine Go_st rfl rfl ?_
  refine Go_st rfl rfl ?_
  refine Go_ifF (by decide +kernel) ?_
  refine Go_st rfl rfl ?_
  refine Go_st rfl rfl ?_
  refine Go_st rfl rfl ?_
  refine Go_st rfl rfl ?_
  refine Go_st rfl rfl ?_
  refine Go_st rfl rfl ?_
  refine Go_iald (v := 0) rfl rfl (by decide +kernel) (by decide +kernel) ?_
  refine Go_iast0 rfl rfl (by decide +kernel) ?_
  refine Go_st rfl rfl ?_
  refine Go_st rfl rfl ?_
  refine Go_st rfl rfl ?_
  refine Go_st rfl rfl ?_
  refine Go_st rfl rfl ?_
  refine Go_st rfl rfl ?_
  refine Go_iald (v := 0) rfl rfl (by decide +kernel) (by decide +kernel) ?_
  refine Go_iast0 rfl rfl (by decide +kernel) ?_
  refine Go_st rfl rfl ?_
  refine Go_st rfl rfl ?_
  refine Go_st rfl rfl ?_
  refine Go_st rfl rfl ?_
  refine Go_st rfl rfl ?_
  refine Go_st rfl rfl ?_
  refine Go_zald (v := 0) rfl rfl (by decide +kernel) (by decide +kernel) ?_
  refine Go_zast0 rfl rfl (by decide +kernel) ?_
  refine Go_inc (v := 17) rfl rfl (by decide +kernel) ?_
  refine Go_st rfl rfl ?_
  refine Go_st rfl rfl ?_
  refine Go_st rfl rfl ?_
  refine Go_st rfl rfl ?_
  refine Go_ifF (by decide +kernel) ?_
  refine Go_st rfl rfl ?_
  refine Go_st rfl rfl ?_
  refine Go_st rfl rfl ?_
  refine Go_st rfl rfl ?_
  refine Go_st rfl rfl ?_
  refine Go_st rfl rfl ?_
  refine Go_iald (v := 0) rfl rfl (by decide +kernel) (by decide +kernel) ?_
  refine Go_iast0 rfl rfl (by decide +kernel) ?_
  refine Go_st rfl rfl ?_
  refine Go_st rfl rfl ?_
  refine Go_st rfl rfl ?_
  refine Go_st rfl rfl ?_
  refine Go_st rfl rfl ?_
  refine Go_st rfl rfl ?_
  refine Go_iald (v := 0) rfl rfl (by decide +kernel) (by decide +kernel) ?_
  refine Go_iast0 rfl rfl (by decide +kernel) ?_
  refine Go_st rfl rfl ?_
  refine Go_st rfl rfl ?_
  refine Go_st rfl rfl ?_
  refine Go_st rfl rfl ?_
  refine Go_st rfl rfl ?_
  refine Go_st rfl rfl ?_
  refine Go_zald (v := 0) rfl rfl (by decide +kernel) (by decide +kernel) ?_
  refine Go_zast0 rfl rfl (by decide +kernel) ?_
  refine Go_inc (v := 18) rfl rfl (by decide +kernel) ?_
  refine Go_st rfl rfl ?_
  refine Go_st rfl rfl ?_
  refine Go_st rfl rfl ?_
  refine Go_st rfl rfl ?_
  refine Go_ifF (by decide +kernel) ?_
  refine Go_st rfl rfl ?_
  refine Go_st rfl rfl ?_
  refine Go_st rfl rfl ?_
  refine Go_st rfl rfl ?_
  refine Go_st rfl rfl ?_
  refine Go_st rfl rfl ?_
  refine Go_iald (v := 0) rfl rfl (by decide +kernel) (by decide +kernel) ?_
  refine Go_iast0 rfl rfl (by decide +kernel) ?_
  refine Go_st rfl rfl ?_
  refine Go_st rfl rfl ?_
  refine Go_st rfl rfl ?_
  refine Go_st rfl rfl ?_
  refine Go_st rfl rfl ?_
  refine Go_st rfl rfl ?_
  refine Go_iald (v := 0) rfl rfl (by decide +kernel) (by decide +kernel) ?_
  refine Go_iast0 rfl rfl (by decide +kernel) ?_
  refine Go_st rfl rfl ?_
  refine Go_st rfl rfl ?_
  refine Go_st rfl rfl ?_
  refine Go_st rfl rfl ?_
  refine Go_st rfl rfl ?_
  refine Go_st rfl rfl ?_
  refine Go_zald (v := 0) rfl rfl (by decide +kernel) (by decide +kernel) ?_
  refine Go_zast0 rfl rfl (by decide +kernel) ?_
  refine Go_inc (v := 19) rfl rfl (by decide +kernel) ?_
  refine Go_st rfl rfl ?_
  refine Go_st rfl rfl ?_
  refine Go_st rfl rfl ?_
  refine Go_st rfl rfl ?_
  refine Go_ifF (by decide +kernel) ?_
  refine Go_st rfl rfl ?_
  refine Go_st rfl rfl ?_
  refine Go_st rfl rfl ?_
  refine Go_st rfl rfl ?_
  refine Go_st rfl rfl ?_
  refine Go_st rfl rfl ?_
  refine Go_iald (v := 0) rfl rfl (by decide +kernel) (by decide +kernel) ?_
  refine Go_iast0 rfl rfl (by decide +kernel) ?_
  refine Go_st rfl rfl ?_
  refine Go_st rfl rfl ?_
  refine Go_st rfl rfl ?_
  refine Go_st rfl rfl ?_
  refine Go_st rfl rfl ?_
  refine Go_st rfl rfl ?_
  refine Go_iald (v := 0) rfl rfl (by decide +kernel) (by decide +kernel) ?_
  refine Go_iast0 rfl rfl (by decide +kernel) ?_
  refine Go_st rfl rfl ?_
  refine Go_st rfl rfl ?_
  refine Go_st rfl rfl ?_
  refine Go_st rfl rfl ?_
  refine Go_st rfl rfl ?_
  refine Go_st rfl rfl ?_
  refine Go_zald (v := 0) rfl rfl (by decide +kernel) (by decide +kernel) ?_
  refine Go_zast0 rfl rfl (by decide +kernel) ?_
  refine Go_inc (v := 20) rfl rfl (by decide +kernel) ?_
  refine Go_st rfl rfl ?_
  refine Go_st rfl rfl ?_
  refine Go_st rfl rfl ?_
  refine Go_st rfl rfl ?_
  refine Go_ifT (by decide +kernel) ?_
  exact Go_ret rfl ⟨rfl, rfl⟩
set_option maxRecDepth 20000 in
set_option maxHeartbeats 4000000 in
theorem rx_X5_take_34_15 (d : Nat)  : pm_Rt pm_P (d + 1) 10 (hp0) [.ref 34, .ref 15] (hp0) none := by
  refine Rt_of aiX5_take (Nat.le_of_ble_eq_true rfl) ?_
  refine Go_st rfl rfl ?_
  refine Go_st rfl rfl ?_
  refine Go_st rfl rfl ?_
  refine Go_sm rfl rfl (sm_f rfl) ?_
  refine Go_st rfl rfl ?_
  refine Go_st rfl rfl ?_
  refine Go_st rfl rfl ?_
  refine Go_sm rfl rfl (sm_f rfl) ?_
  refine Go_st rfl rfl ?_
  refine Go_st rfl rfl ?_
  refine Go_st rfl rfl ?_
  refine Go_sm rfl rfl (sm_f rfl) ?_
  refine Go_st rfl rfl ?_
  refine Go_st rfl rfl ?_
  refine Go_st rfl rfl ?_
  refine Go_sm rfl rfl (sm_f rfl) ?_
  refine Go_st rfl rfl ?_
  refine Go_st rfl rfl ?_
  refine Go_st rfl rfl ?_
  refine Go_sm rfl rfl (sm_f rfl) ?_
  refine Go_st rfl rfl ?_
  refine Go_st rfl rfl ?_
  refine Go_st rfl rfl ?_
  refine Go_sm rfl rfl (sm_f rfl) ?_
  refine Go_st rfl rfl ?_
  refine Go_st rfl rfl ?_
  refine Go_st rfl rfl ?_
  refine Go_sm rfl rfl (sm_f rfl) ?_
  refine Go_st rfl rfl ?_
  refine Go_st rfl rfl ?_
  refine Go_st rfl rfl ?_
  refine Go_st rfl rfl ?_
  refine Go_st rfl rfl ?_
  refine Go_ifF (by decide +kernel) ?_
  refine Go_st rfl rfl ?_
  refine Go_st rfl rfl ?_
  refine Go_st rfl rfl ?_
  refine Go_st rfl rfl ?_
  refine Go_st rfl rfl ?_
  refine Go_st rfl rfl ?_
  refine Go_iald (v := 0) rfl rfl (by decide +kernel) (by decide +kernel) ?_
  refine Go_iast0 rfl rfl (by decide +kernel) ?_
  refine Go_st rfl rfl ?_
  refine Go_st rfl rfl ?_
  refine Go_st rfl rfl ?_
  refine Go_st rfl rfl ?_
  refine Go_st rfl rfl ?_
  refine Go_st rfl rfl ?_
  refine Go_iald (v := 0) rfl rfl (by decide +kernel) (by decide +kernel) ?_
  refine Go_iast0 rfl rfl (by decide +kernel) ?_
  refine Go_st rfl rfl ?_
  refine Go_st rfl rfl ?_
  refine Go_st rfl rfl ?_
  refine Go_st rfl rfl ?_
  refine Go_st rfl rfl ?_
  refine Go_st rfl rfl ?_
  refine Go_iald (v := 0) rfl rfl (by decide +kernel) (by decide +kernel) ?_
  refine Go_iast0 rfl rfl (by decide +kernel) ?_
  refine Go_st rfl rfl ?_
  refine Go_st rfl rfl ?_
  refine Go_st rfl rfl ?_
  refine Go_st rfl rfl ?_
  refine Go_st rfl rfl ?_
  refine Go_st rfl rfl ?_
  refine Go_iald (v := 0) rfl rfl (by decide +kernel) (by decide +kernel) ?_
  refine Go_iast0 rfl rfl (by decide +kernel) ?_
  refine Go_st rfl rfl ?_
  refine Go_st rfl rfl ?_
  refine Go_st rfl rfl ?_
  refine Go_st rfl rfl ?_
  refine Go_st rfl rfl ?_
  refine Go_st rfl rfl ?_
  refine Go_iald (v := 0) rfl rfl (by decide +kernel) (by decide +kernel) ?_
  refine Go_iast0 rfl rfl (by decide +kernel) ?_
  refine Go_inc (v := 1) rfl rfl (by decide +kernel) ?_
  refine Go_st rfl rfl ?_
  refine Go_st rfl rfl ?_
  refine Go_st rfl rfl ?_
  refine Go_st rfl rfl ?_
  refine Go_ifF (by decide +kernel) ?_
  refine Go_st rfl rfl ?_
  refine Go_st rfl rfl ?_
  refine Go_st rfl rfl ?_
  refine Go_st rfl rfl ?_
  refine Go_st rfl rfl ?_
  refine Go_st rfl rfl ?_
  refine Go_iald (v := 0) rfl rfl (by decide +kernel) (by decide +kernel) ?_
  refine Go_iast0 rfl rfl (by decide +kernel) ?_
  refine Go_st rfl rfl ?_
  refine Go_st rfl rfl ?_
  refine Go_st rfl rfl ?_
  refine Go_st rfl rfl ?_
  refine Go_st rfl rfl ?_
  refine Go_st rfl rfl ?_
  refine Go_iald (v := 0) rfl rfl (by decide +kernel) (by decide +kernel) ?_
  refine Go_iast0 rfl rfl (by decide +kernel) ?_
  refine Go_st rfl rfl ?_
  refine Go_st rfl rfl ?_
  refine Go_st rfl rfl ?_
  refine Go_st rfl rfl ?_
  refine Go_st rfl rfl ?_
  refine Go_st rfl rfl ?_
  refine Go_iald (v := 0) rfl rfl (by decide +kernel) (by decide +kernel) ?_
  refine Go_iast0 rfl rfl (by decide +kernel) ?_
  refine Go_st rfl rfl ?_
  refine Go_st rfl rfl ?_
  refine Go_st rfl rfl ?_
  refine Go_st rfl rfl ?_
  refine Go_st rfl rfl ?_
  refine Go_st rfl rfl ?_
  refine Go_iald (v := 0) rfl rfl (by decide +kernel) (by decide +kernel) ?_
  refine Go_iast0 rfl rfl (by decide +kernel) ?_
  refine Go_st rfl rfl ?_
  refine Go_st rfl rfl ?_
  refine Go_st rfl rfl ?_
  refine Go_st rfl rfl ?_
  refine Go_st rfl rfl ?_
  refine Go_st rfl rfl ?_
  refine Go_iald (v := 0) rfl rfl (by decide +kernel) (by decide +kernel) ?_
  refine Go_iast0 rfl rfl (by decide +kernel) ?_
  refine Go_inc (v := 2) rfl rfl (by decide +kernel) ?_
  refine Go_st rfl rfl ?_
  refine Go_st rfl rfl ?_
  refine Go_st rfl rfl ?_
  refine Go_st rfl rfl ?_
  refine Go_ifF (by decide +kernel) ?_
  refine Go_st rfl rfl ?_
  refine Go_st rfl rfl ?_
  refine Go_st rfl rfl ?_
  refine Go_st rfl rfl ?_
  refine Go_st rfl rfl ?_
  refine Go_st rfl rfl ?_
  refine Go_iald (v := 0) rfl rfl (by decide +kernel) (by decide +kernel) ?_
  refine Go_iast0 rfl rfl (by decide +kernel) ?_
  refine Go_st rfl rfl ?_
  refine Go_st rfl rfl ?_
  refine Go_st rfl rfl ?_
  refine Go_st rfl rfl ?_
  refine Go_st rfl rfl ?_
  refine Go_st rfl rfl ?_
  refine Go_iald (v := 0) rfl rfl (by decide +kernel) (by decide +kernel) ?_
  refine Go_iast0 rfl rfl (by decide +kernel) ?_
  refine Go_st rfl rfl ?_
  refine Go_st rfl rfl ?_
  refine Go_st rfl rfl ?_
  refine Go_st rfl rfl ?_
  refine Go_st rfl rfl ?_
  refine Go_st rfl rfl ?_
  refine Go_iald (v := 0) rfl rfl (by decide +kernel) (by decide +kernel) ?_
  refine Go_iast0 rfl rfl (by decide +kernel) ?_
  refine Go_st rfl rfl ?_
  refine Go_st rfl rfl ?_
  refine Go_st rfl rfl ?_
  refine Go_st rfl rfl ?_
  refine Go_st rfl rfl ?_
  refine Go_st rfl rfl ?_
  refine Go_iald (v := 0) rfl rfl (by decide +kernel) (by decide +kernel) ?_
  refine Go_iast0 rfl rfl (by decide +kernel) ?_
  refine Go_st rfl rfl ?_
  refine Go_st rfl rfl ?_
  refine Go_st rfl rfl ?_
  refine Go_st rfl rfl ?_
  refine Go_st rfl rfl ?_
  refine Go_st rfl rfl ?_
  refine Go_iald (v := 0) rfl rfl (by decide +kernel) (by decide +kernel) ?_
  refine Go_iast0 rfl rfl (by decide +kernel) ?_
  refine Go_inc (v := 3) rfl rfl (by decide +kernel) ?_
  refine Go_st rfl rfl ?_
  refine Go_st rfl rfl ?_
  refine Go_st rfl rfl ?_
  refine Go_st rfl rfl ?_
  refine Go_ifF (by decide +kernel) ?_
  refine Go_st rfl rfl ?_
  refine Go_st rfl rfl ?_
  refine Go_st rfl rfl ?_
  refine Go_st rfl rfl ?_
  refine Go_st rfl rfl ?_
  refine Go_st rfl rfl ?_
  refine Go_iald (v := 0) rfl rfl (by decide +kernel) (by decide +kernel) ?_
  refine Go_iast0 rfl rfl (by decide +kernel) ?_
  refine Go_st rfl rfl ?_
  refine Go_st rfl rfl ?_
  refine Go_st rfl rfl ?_
  refine Go_st rfl rfl ?_
  refine Go_st rfl rfl ?_
  refine Go_st rfl rfl ?_
  refine Go_iald (v := 0) rfl rfl (by decide +kernel) (by decide +kernel) ?_
  refine Go_iast0 rfl rfl (by decide +kernel) ?_
  refine Go_st rfl rfl ?_
  refine Go_st rfl rfl ?_
  refine Go_st rfl rfl ?_
  refine Go_st rfl rfl ?_
  refine Go_st rfl rfl ?_
  refine Go_st rfl rfl ?_
  refine Go_iald (v := 0) rfl rfl (by decide +kernel) (by decide +kernel) ?_
  refine Go_iast0 rfl rfl (by decide +kernel) ?_
  refine Go_st rfl rfl ?_
  refine Go_st rfl rfl ?_
  refine Go_st rfl rfl ?_
  refine Go_st rfl rfl ?_
  refine Go_st rfl rfl ?_
  refine Go_st rfl rfl ?_
  refine Go_iald (v := 0) rfl rfl (by decide +kernel) (by decide +kernel) ?_
  refine Go_iast0 rfl rfl (by decide +kernel) ?_
  refine Go_st rfl rfl ?_
  refine Go_st rfl rfl ?_
  refine Go_st rfl rfl ?_
  refine Go_st rfl rfl ?_
  refine Go_st rfl rfl ?_
  refine Go_st rfl rfl ?_
  refine Go_iald (v := 0) rfl rfl (by decide +kernel) (by decide +kernel) ?_
  refine Go_iast0 rfl rfl (by decide +kernel) ?_
  refine Go_inc (v := 4) rfl rfl (by decide +kernel) ?_
  refine Go_st rfl rfl ?_
  refine Go_st rfl rfl ?_
  refine Go_st rfl rfl ?_
  refine Go_st rfl rfl ?_
  refine Go_ifF (by decide +kernel) ?_
  refine Go_st rfl rfl ?_
  refine Go_st rfl rfl ?_
  refine Go_st rfl rfl ?_
  refine Go_st rfl rfl ?_
  refine Go_st rfl rfl ?_
  refine Go_st rfl rfl ?_
  refine Go_iald (v := 0) rfl rfl (by decide +kernel) (by decide +kernel) ?_
  refine Go_iast0 rfl rfl (by decide +kernel) ?_
  refine Go_st rfl rfl ?_
  refine Go_st rfl rfl ?_
  refine Go_st rfl rfl ?_
  refine Go_st rfl rfl ?_
  refine Go_st rfl rfl ?_
  refine Go_st rfl rfl ?_
  refine Go_iald (v := 0) rfl rfl (by decide +kernel) (by decide +kernel) ?_
  refine Go_iast0 rfl rfl (by decide +kernel) ?_
  refine Go_st rfl rfl ?_
  refine Go_st rfl rfl ?_
  refine Go_st rfl rfl ?_
  refine Go_st rfl rfl ?_
  refine Go_st rfl rfl ?_
  refine Go_st rfl rfl ?_
  refine Go_iald (v := 0) rfl rfl (by decide +kernel) (by decide +kernel) ?_
  refine Go_iast0 rfl rfl (by decide +kernel) ?_
  refine Go_st rfl rfl ?_
  refine Go_st rfl rfl ?_
  refine Go_st rfl rfl ?_
  refine Go_st rfl rfl ?_
  refine Go_st rfl rfl ?_
  refine Go_st rfl rfl ?_
  refine Go_iald (v := 0) rfl rfl (by decide +kernel) (by decide +kernel) ?_
  refine Go_iast0 rfl rfl (by decide +kernel) ?_
  refine Go_st rfl rfl ?_
  refine Go_st rfl rfl ?_
  refine Go_st rfl rfl ?_
  refine Go_st rfl rfl ?_
  refine Go_st rfl rfl ?_
  refine Go_st rfl rfl ?_
  refine Go_iald (v := 0) rfl rfl (by decide +kernel) (by decide +kernel) ?_
  refine Go_iast0 rfl rfl (by decide +kernel) ?_
  refine Go_inc (v := 5) rfl rfl (by decide +kernel) ?_
  refine Go_st rfl rfl ?_
  refine Go_st rfl rfl ?_
  refine Go_st rfl rfl ?_
  refine Go_st rfl rfl ?_
  refine Go_ifF (by decide +kernel) ?_
  refine Go_st rfl rfl ?_
  refine Go_st rfl rfl ?_
  refine Go_st rfl rfl ?_
  refine Go_st rfl rfl ?_
  refine Go_st rfl rfl ?_
  refine Go_st rfl rfl ?_
  refine Go_iald (v := 0) rfl rfl (by decide +kernel) (by decide +kernel) ?_
  refine Go_iast0 rfl rfl (by decide +kernel) ?_
  refine Go_st rfl rfl ?_
  refine Go_st rfl rfl ?_
  refine Go_st rfl rfl ?_
  refine Go_st rfl rfl ?_
  refine Go_st rfl rfl ?_
  refine Go_st rfl rfl ?_
  refine Go_iald (v := 0) rfl rfl (by decide +kernel) (by decide +kernel) ?_
  refine Go_iast0 rfl rfl (by decide +kernel) ?_
  refine Go_st rfl rfl ?_
  refine Go_st rfl rfl ?_
  refine Go_st rfl rfl ?_
  refine Go_st rfl rfl ?_
  refine Go_st rfl rfl ?_
  refine Go_st rfl rfl ?_
  refine Go_iald (v := 0) rfl rfl (by decide +kernel) (by decide +kernel) ?_
  refine Go_iast0 rfl rfl (by decide +kernel) ?_
  refine Go_st rfl rfl ?_
  refine Go_st rfl rfl ?_
  refine Go_st rfl rfl ?_
  refine Go_st rfl rfl ?_
  refine Go_st rfl rfl ?_
  refine Go_st rfl rfl ?_
  refine Go_iald (v := 0) rfl rfl (by decide +kernel) (by decide +kernel) ?_
  refine Go_iast0 rfl rfl (by decide +kernel) ?_
  refine Go_st rfl rfl ?_
  refine Go_st rfl rfl ?_
  refine Go_st rfl rfl ?_
  refine Go_st rfl rfl ?_
  refine Go_st rfl rfl ?_
  refine Go_st rfl rfl ?_
  refine Go_iald (v := 0) rfl rfl (by decide +kernel) (by decide +kernel) ?_
  refine Go_iast0 rfl rfl (by decide +kernel) ?_
  refine Go_inc (v := 6) rfl rfl (by decide +kernel) ?_
  refine Go_st rfl rfl ?_
  refine Go_st rfl rfl ?_
  refine Go_st rfl rfl ?_
  refine Go_st rfl rfl ?_
  refine Go_ifF (by decide +kernel) ?_
  refine Go_st rfl rfl ?_
  refine Go_st rfl rfl ?_
  refine Go_st rfl rfl ?_
  refine Go_st rfl rfl ?_
  refine Go_st rfl rfl ?_
  refine Go_st rfl rfl ?_
  refine Go_iald (v := 0) rfl rfl (by decide +kernel) (by decide +kernel) ?_
  refine Go_iast0 rfl rfl (by decide +kernel) ?_
  refine Go_st rfl rfl ?_
  refine Go_st rfl rfl ?_
  refine Go_st rfl rfl ?_
  refine Go_st rfl rfl ?_
  refine Go_st rfl rfl ?_
  refine Go_st rfl rfl ?_
  refine Go_iald (v := 0) rfl rfl (by decide +kernel) (by decide +kernel) ?_
  refine Go_iast0 rfl rfl (by decide +kernel) ?_
  refine Go_st rfl rfl ?_
  refine Go_st rfl rfl ?_
  refine Go_st rfl rfl ?_
  refine Go_st rfl rfl ?_
  refine Go_st rfl rfl ?_
  refine Go_st rfl rfl ?_
  refine Go_iald (v := 0) rfl rfl (by decide +kernel) (by decide +kernel) ?_
  refine Go_iast0 rfl rfl (by decide +kernel) ?_
  refine Go_st rfl rfl ?_
  refine Go_st rfl rfl ?_
  refine Go_st rfl rfl ?_
  refine Go_st rfl rfl ?_
  refine Go_st rfl rfl ?_
  refine Go_st rfl rfl ?_
  refine Go_iald (v := 0) rfl rfl (by decide +kernel) (by decide +kernel) ?_
  refine Go_iast0 rfl rfl (by decide +kernel) ?_
  refine Go_st rfl rfl ?_
  refine Go_st rfl rfl ?_
  refine Go_st rfl rfl ?_
  refine Go_st rfl rfl ?_
  refine Go_st rfl rfl ?_
  refine Go_st rfl rfl ?_
  refine Go_iald (v := 0) rfl rfl (by decide +kernel) (by decide +kernel) ?_
  refine Go_iast0 rfl rfl (by decide +kernel) ?_
  refine Go_inc (v := 7) rfl rfl (by decide +kernel) ?_
  refine Go_st rfl rfl ?_
  refine Go_st rfl rfl ?_
  refine Go_st rfl rfl ?_
  refine Go_st rfl rfl ?_
  refine Go_ifF (by decide +kernel) ?_
  refine Go_st rfl rfl ?_
  refine Go_st rfl rfl ?_
  refine Go_st rfl rfl ?_
  refine Go_st rfl rfl ?_
  refine Go_st rfl rfl ?_
  refine Go_st rfl rfl ?_
  refine Go_iald (v := 0) rfl rfl (by decide +kernel) (by decide +kernel) ?_
  refine Go_iast0 rfl rfl (by decide +kernel) ?_
  refine Go_st rfl rfl ?_
  refine Go_st rfl rfl ?_
  refine Go_st rfl rfl ?_
  refine Go_st rfl rfl ?_
  refine Go_st rfl rfl ?_
  refine Go_st rfl rfl ?_
  refine Go_iald (v := 0) rfl rfl (by decide +kernel) (by decide +kernel) ?_
  refine Go_iast0 rfl rfl (by decide +kernel) ?_
  refine Go_st rfl rfl ?_
  refine Go_st rfl rfl ?_
  refine Go_st rfl rfl ?_
  refine Go_st rfl rfl ?_
  refine Go_st rfl rfl ?_
  refine Go_st rfl rfl ?_
  refine Go_iald (v := 0) rfl rfl (by decide +kernel) (by decide +kernel) ?_
  refine Go_iast0 rfl rfl (by decide +kernel) ?_
  refine Go_st rfl rfl ?_
  refine Go_st rfl rfl ?_
  refine Go_st rfl rfl ?_
  refine Go_st rfl rfl ?_
  refine Go_st rfl rfl ?_
  refine Go_st rfl rfl ?_
  refine Go_iald (v := 0) rfl rfl (by decide +kernel) (by decide +kernel) ?_
  refine Go_iast0 rfl rfl (by decide +kernel) ?_
  refine Go_st rfl rfl ?_
  refine Go_st rfl rfl ?_
  refine Go_st rfl rfl ?_
  refine Go_st rfl rfl ?_
  refine Go_st rfl rfl ?_
  refine Go_st rfl rfl ?_
  refine Go_iald (v := 0) rfl rfl (by decide +kernel) (by decide +kernel) ?_
  refine Go_iast0 rfl rfl (by decide +kernel) ?_
  refine Go_inc (v := 8) rfl rfl (by decide +kernel) ?_
  refine Go_st rfl rfl ?_
  refine Go_st rfl rfl ?_
  refine Go_st rfl rfl ?_
  refine Go_st rfl rfl ?_
  refine Go_ifT (by decide +kernel) ?_
  refine Go_st rfl rfl ?_
  refine Go_st rfl rfl ?_
  refine Go_st rfl rfl ?_
  refine Go_st rfl rfl ?_
  refine Go_st rfl rfl ?_
  refine Go_ifF (by decide +kernel) ?_
  refine Go_st rfl rfl ?_
  refine Go_st rfl rfl ?_
  refine Go_st rfl rfl ?_
  refine Go_st rfl rfl ?_
  refine Go_st rfl rfl ?_
  refine Go_st rfl rfl ?_
  refine Go_iald (v := 0) rfl rfl (by decide +kernel) (by decide +kernel) ?_
  refine Go_iast0 rfl rfl (by decide +kernel) ?_
  refine Go_st rfl rfl ?_
  refine Go_st rfl rfl ?_
  refine Go_st rfl rfl ?_
  refine Go_st rfl rfl ?_
  refine Go_st rfl rfl ?_
  refine Go_st rfl rfl ?_
  refine Go_iald (v := 0) rfl rfl (by decide +kernel) (by decide +kernel) ?_
  refine Go_iast0 rfl rfl (by decide +kernel) ?_
  refine Go_st rfl rfl ?_
  refine Go_st rfl rfl ?_
  refine Go_st rfl rfl ?_
  refine Go_st rfl rfl ?_
  refine Go_st rfl rfl ?_
  refine Go_st rfl rfl ?_
  refine Go_zald (v := 0) rfl rfl (by decide +kernel) (by decide +kernel) ?_
  refine Go_zast0 rfl rfl (by decide +kernel) ?_
  refine Go_inc (v := 1) rfl rfl (by decide +kernel) ?_
  refine Go_st rfl rfl ?_
  refine Go_st rfl rfl ?_
  refine Go_st rfl rfl ?_
  refine Go_st rfl rfl ?_
  refine Go_ifF (by decide +kernel) ?_
  refine Go_st rfl rfl ?_
  refine Go_st rfl rfl ?_
  refine Go_st rfl rfl ?_
  refine Go_st rfl rfl ?_
  refine Go_st rfl rfl ?_
  refine Go_st rfl rfl ?_
  refine Go_iald (v := 0) rfl rfl (by decide +kernel) (by decide +kernel) ?_
  refine Go_iast0 rfl rfl (by decide +kernel) ?_
  refine Go_st rfl rfl ?_
  refine Go_st rfl rfl ?_
  refine Go_st rfl rfl ?_
  refine Go_st rfl rfl ?_
  refine Go_st rfl rfl ?_
  refine Go_st rfl rfl ?_
  refine Go_iald (v := 0) rfl rfl (by decide +kernel) (by decide +kernel) ?_
  refine Go_iast0 rfl rfl (by decide +kernel) ?_
  refine Go_st rfl rfl ?_
  refine Go_st rfl rfl ?_
  refine Go_st rfl rfl ?_
  refine Go_st rfl rfl ?_
  refine Go_st rfl rfl ?_
  refine Go_st rfl rfl ?_
  refine Go_zald (v := 0) rfl rfl (by decide +kernel) (by decide +kernel) ?_
  refine Go_zast0 rfl rfl (by decide +kernel) ?_
  refine Go_inc (v := 2) rfl rfl (by decide +kernel) ?_
  refine Go_st rfl rfl ?_
  refine Go_st rfl rfl ?_
  refine Go_st rfl rfl ?_
  refine Go_st rfl rfl ?_
  refine Go_ifF (by decide +kernel) ?_
  refine Go_st rfl rfl ?_
  refine Go_st rfl rfl ?_
  refine Go_st rfl rfl ?_
  refine Go_st rfl rfl ?_
  refine Go_st rfl rfl ?_
  refine Go_st rfl rfl ?_
  refine Go_iald (v := 0) rfl rfl (by decide +kernel) (by decide +kernel) ?_
  refine Go_iast0 rfl rfl (by decide +kernel) ?_
  refine Go_st rfl rfl ?_
  refine Go_st rfl rfl ?_
  refine Go_st rfl rfl ?_
  refine Go_st rfl rfl ?_
  refine Go_st rfl rfl ?_
  refine Go_st rfl rfl ?_
  refine Go_iald (v := 0) rfl rfl (by decide +kernel) (by decide +kernel) ?_
  refine Go_iast0 rfl rfl (by decide +kernel) ?_
  refine Go_st rfl rfl ?_
  refine Go_st rfl rfl ?_
  refine Go_st rfl rfl ?_
  refine Go_st rfl rfl ?_
  refine Go_st rfl rfl ?_
  refine Go_st rfl rfl ?_
  refine Go_zald (v := 0) rfl rfl (by decide +kernel) (by decide +kernel) ?_
  refine Go_zast0 rfl rfl (by decide +kernel) ?_
  refine Go_inc (v := 3) rfl rfl (by decide +kernel) ?_
  refine Go_st rfl rfl ?_
  refine Go_st rfl rfl ?_
  refine Go_st rfl rfl ?_
  refine Go_st rfl rfl ?_
  refine Go_ifF (by decide +kernel) ?_
  refine Go_st rfl rfl ?_
  refine Go_st rfl rfl ?_
  refine Go_st rfl rfl ?_
  refine Go_st rfl rfl ?_
  refine Go_st rfl rfl ?_
  refine Go_st rfl rfl ?_
  refine Go_iald (v := 0) rfl rfl (by decide +kernel) (by decide +kernel) ?_
  refine Go_iast0 rfl rfl (by decide +kernel) ?_
  refine Go_st rfl rfl ?_
  refine Go_st rfl rfl ?_
  refine Go_st rfl rfl ?_
  refine Go_st rfl rfl ?_
  refine Go_st rfl rfl ?_
  refine Go_st rfl rfl ?_
  refine Go_iald (v := 0) rfl rfl (by decide +kernel) (by decide +kernel) ?_
  refine Go_iast0 rfl rfl (by decide +kernel) ?_
  refine Go_st rfl rfl ?_
  refine Go_st rfl rfl ?_
  refine Go_st rfl rfl ?_
  refine Go_st rfl rfl ?_
  refine Go_st rfl rfl ?_
  refine Go_st rfl rfl ?_
  refine Go_zald (v := 0) rfl rfl (by decide +kernel) (by decide +kernel) ?_
  refine Go_zast0 rfl rfl (by decide +kernel) ?_
  refine Go_inc (v := 4) rfl rfl (by decide +kernel) ?_
  refine Go_st rfl rfl ?_
  refine Go_st rfl rfl ?_
  refine Go_st rfl rfl ?_
  refine Go_st rfl rfl ?_
  refine Go_ifF (by decide +kernel) ?_
  refine Go_st rfl rfl ?_
  refine Go_st rfl rfl ?_
  refine Go_st rfl rfl ?_
  refine Go_st rfl rfl ?_
  refine Go_st rfl rfl ?_
  refine Go_st rfl rfl ?_
  refine Go_iald (v := 0) rfl rfl (by decide +kernel) (by decide +kernel) ?_
  refine Go_iast0 rfl rfl (by decide +kernel) ?_
  refine Go_st rfl rfl ?_
  refine Go_st rfl rfl ?_
  refine Go_st rfl rfl ?_
  refine Go_st rfl rfl ?_
  refine Go_st rfl rfl ?_
  refine Go_st rfl rfl ?_
  refine Go_iald (v := 0) rfl rfl (by decide +kernel) (by decide +kernel) ?_
  refine Go_iast0 rfl rfl (by decide +kernel) ?_
  refine Go_st rfl rfl ?_
  refine Go_st rfl rfl ?_
  refine Go_st rfl rfl ?_
  refine Go_st rfl rfl ?_
  refine Go_st rfl rfl ?_
  refine Go_st rfl rfl ?_
  refine Go_zald (v := 0) rfl rfl (by decide +kernel) (by decide +kernel) ?_
  refine Go_zast0 rfl rfl (by decide +kernel) ?_
  refine Go_inc (v := 5) rfl rfl (by decide +kernel) ?_
  refine Go_st rfl rfl ?_
  refine Go_st rfl rfl ?_
  refine Go_st rfl rfl ?_
  refine Go_st rfl rfl ?_
  refine Go_ifF (by decide +kernel) ?_
  refine Go_st rfl rfl ?_
  refine Go_st rfl rfl ?_
  refine Go_st rfl rfl ?_
  refine Go_st rfl rfl ?_
  refine Go_st rfl rfl ?_
  refine Go_st rfl rfl ?_
  refine Go_iald (v := 0) rfl rfl (by decide +kernel) (by decide +kernel) ?_
  refine Go_iast0 rfl rfl (by decide +kernel) ?_
  refine Go_st rfl rfl ?_
  refine Go_st rfl rfl ?_
  refine Go_st rfl rfl ?_
  refine Go_st rfl rfl ?_
  refine Go_st rfl rfl ?_
  refine Go_st rfl rfl ?_
  refine Go_iald (v := 0) rfl rfl (by decide +kernel) (by decide +kernel) ?_
  refine Go_iast0 rfl rfl (by decide +kernel) ?_
  refine Go_st rfl rfl ?_
  refine Go_st rfl rfl ?_
  refine Go_st rfl rfl ?_
  refine Go_st rfl rfl ?_
  refine Go_st rfl rfl ?_
  refine Go_st rfl rfl ?_
  refine Go_zald (v := 0) rfl rfl (by decide +kernel) (by decide +kernel) ?_
  refine Go_zast0 rfl rfl (by decide +kernel) ?_
  refine Go_inc (v := 6) rfl rfl (by decide +kernel) ?_
  refine Go_st rfl rfl ?_
  refine Go_st rfl rfl ?_
  refine Go_st rfl rfl ?_
  refine Go_st rfl rfl ?_
  refine Go_ifF (by decide +kernel) ?_
  refine Go_st rfl rfl ?_
  refine Go_st rfl rfl ?_
  refine Go_st rfl rfl ?_
  refine Go_st rfl rfl ?_
  refine Go_st rfl rfl ?_
  refine Go_st rfl rfl ?_
  refine Go_iald (v := 0) rfl rfl (by decide +kernel) (by decide +kernel) ?_
  refine Go_iast0 rfl rfl (by decide +kernel) ?_
  refine Go_st rfl rfl ?_
  refine Go_st rfl rfl ?_
  refine Go_st rfl rfl ?_
  refine Go_st rfl rfl ?_
  refine Go_st rfl rfl ?_
  refine Go_st rfl rfl ?_
  refine Go_iald (v := 0) rfl rfl (by decide +kernel) (by decide +kernel) ?_
  refine Go_iast0 rfl rfl (by decide +kernel) ?_
  refine Go_st rfl rfl ?_
  refine Go_st rfl rfl ?_
  refine Go_st rfl rfl ?_
  refine Go_st rfl rfl ?_
  refine Go_st rfl rfl ?_
  refine Go_st rfl rfl ?_
  refine Go_zald (v := 0) rfl rfl (by decide +kernel) (by decide +kernel) ?_
  refine Go_zast0 rfl rfl (by decide +kernel) ?_
  refine Go_inc (v := 7) rfl rfl (by decide +kernel) ?_
  refine Go_st rfl rfl ?_
  refine Go_st rfl rfl ?_
  refine Go_st rfl rfl ?_
  refine Go_st rfl rfl ?_
  refine Go_ifF (by decide +kernel) ?_
  refine Go_st rfl rfl ?_
  refine Go_st rfl rfl ?_
  refine Go_st rfl rfl ?_
  refine Go_st rfl rfl ?_
  refine Go_st rfl rfl ?_
  refine Go_st rfl rfl ?_
  refine Go_iald (v := 0) rfl rfl (by decide +kernel) (by decide +kernel) ?_
  refine Go_iast0 rfl rfl (by decide +kernel) ?_
  refine Go_st rfl rfl ?_
  refine Go_st rfl rfl ?_
  refine Go_st rfl rfl ?_
  refine Go_st rfl rfl ?_
  refine Go_st rfl rfl ?_
  refine Go_st rfl rfl ?_
  refine Go_iald (v := 0) rfl rfl (by decide +kernel) (by decide +kernel) ?_
  refine Go_iast0 rfl rfl (by decide +kernel) ?_
  refine Go_st rfl rfl ?_
  refine Go_st rfl rfl ?_
  refine Go_st rfl rfl ?_
  refine Go_st rfl rfl ?_
  refine Go_st rfl rfl ?_
  refine Go_st rfl rfl ?_
  refine Go_zald (v := 0) rfl rfl (by decide +kernel) (by decide +kernel) ?_
  refine Go_zast0 rfl rfl (by decide +kernel) ?_
  refine Go_inc (v := 8) rfl rfl (by decide +kernel) ?_
  refine Go_st rfl rfl ?_
  refine Go_st rfl rfl ?_
  refine Go_st rfl rfl ?_
  refine Go_st rfl rfl ?_
  refine Go_ifF (by decide +kernel) ?_
  refine Go_st rfl rfl ?_
  refine Go_st rfl rfl ?_
  refine Go_st rfl rfl ?_
  refine Go_st rfl rfl ?_
  refine Go_st rfl rfl ?_
  refine Go_st rfl rfl ?_
  refine Go_iald (v := 0) rfl rfl (by decide +kernel) (by decide +kernel) ?_
  refine Go_iast0 rfl rfl (by decide +kernel) ?_
  refine Go_st rfl rfl ?_
  refine Go_st rfl rfl ?_
  refine Go_st rfl rfl ?_
  refine Go_st rfl rfl ?_
  refine Go_st rfl rfl ?_
  refine Go_st rfl rfl ?_
  refine Go_iald (v := 0) rfl rfl (by decide +kernel) (by decide +kernel) ?_
  refine Go_iast0 rfl rfl (by decide +kernel) ?_
  refine Go_st rfl rfl ?_
  refine Go_st rfl rfl ?_
  refine Go_st rfl rfl ?_
  refine Go_st rfl rfl ?_
  refine Go_st rfl rfl ?_
  refine Go_st rfl rfl ?_
  refine Go_zald (v := 0) rfl rfl (by decide +kernel) (by decide +kernel) ?_
  refine Go_zast0 rfl rfl (by decide +kernel) ?_
  refine Go_inc (v := 9) rfl rfl (by decide +kernel) ?_
  refine Go_st rfl rfl ?_
  refine Go_st rfl rfl ?_
  refine Go_st rfl rfl ?_
  refine Go_st rfl rfl ?_
  refine Go_ifF (by decide +kernel) ?_
  refine Go_st rfl rfl ?_
  refine Go_st rfl rfl ?_
  refine Go_st rfl rfl ?_
  refine Go_st rfl rfl ?_
  refine Go_st rfl rfl ?_
  refine Go_st rfl rfl ?_
  refine Go_iald (v := 0) rfl rfl (by decide +kernel) (by decide +kernel) ?_
  refine Go_iast0 rfl rfl (by decide +kernel) ?_
  refine Go_st rfl rfl ?_
  refine Go_st rfl rfl ?_
  refine Go_st rfl rfl ?_
  refine Go_st rfl rfl ?_
  refine Go_st rfl rfl ?_
  refine Go_st rfl rfl ?_
  refine Go_iald (v := 0) rfl rfl (by decide +kernel) (by decide +kernel) ?_
  refine Go_iast0 rfl rfl (by decide +kernel) ?_
  refine Go_st rfl rfl ?_
  refine Go_st rfl rfl ?_
  refine Go_st rfl rfl ?_
  refine Go_st rfl rfl ?_
  refine Go_st rfl rfl ?_
  refine Go_st rfl rfl ?_
  refine Go_zald (v := 0) rfl rfl (by decide +kernel) (by decide +kernel) ?_
  refine Go_zast0 rfl rfl (by decide +kernel) ?_
  refine Go_inc (v := 10) rfl rfl (by decide +kernel) ?_
  refine Go_st rfl rfl ?_
  refine Go_st rfl rfl ?_
  refine Go_st rfl rfl ?_
  refine Go_st rfl rfl ?_
  refine Go_ifF (by decide +kernel) ?_
  refine Go_st rfl rfl ?_
  refine Go_st rfl rfl ?_
  refine Go_st rfl rfl ?_
  refine Go_st rfl rfl ?_
  refine Go_st rfl rfl ?_
  refine Go_st rfl rfl ?_
  refine Go_iald (v := 0) rfl rfl (by decide +kernel) (by decide +kernel) ?_
  refine Go_iast0 rfl rfl (by decide +kernel) ?_
  refine Go_st rfl rfl ?_
  refine Go_st rfl rfl ?_
  refine Go_st rfl rfl ?_
  refine Go_st rfl rfl ?_
  refine Go_st rfl rfl ?_
  refine Go_st rfl rfl ?_
  refine Go_iald (v := 0) rfl rfl (by decide +kernel) (by decide +kernel) ?_
  refine Go_iast0 rfl rfl (by decide +kernel) ?_
  refine Go_st rfl rfl ?_
  refine Go_st rfl rfl ?_
  refine Go_st rfl rfl ?_
  refine Go_st rfl rfl ?_
  refine Go_st rfl rfl ?_
  refine Go_st rfl rfl ?_
  refine Go_zald (v := 0) rfl rfl (by decide +kernel) (by decide +kernel) ?_
  refine Go_zast0 rfl rfl (by decide +kernel) ?_
  refine Go_inc (v := 11) rfl rfl (by decide +kernel) ?_
  refine Go_st rfl rfl ?_
  refine Go_st rfl rfl ?_
  refine Go_st rfl rfl ?_
  refine Go_st rfl rfl ?_
  refine Go_ifF (by decide +kernel) ?_
  refine Go_st rfl rfl ?_
  refine Go_st rfl rfl ?_
  refine Go_st rfl rfl ?_
  refine Go_st rfl rfl ?_
  refine Go_st rfl rfl ?_
  refine Go_st rfl rfl ?_
  refine Go_iald (v := 0) rfl rfl (by decide +kernel) (by decide +kernel) ?_
  refine Go_iast0 rfl rfl (by decide +kernel) ?_
  refine Go_st rfl rfl ?_
  refine Go_st rfl rfl ?_
  refine Go_st rfl rfl ?_
  refine Go_st rfl rfl ?_
  refine Go_st rfl rfl ?_
  refine Go_st rfl rfl ?_
  refine Go_iald (v := 0) rfl rfl (by decide +kernel) (by decide +kernel) ?_
  refine Go_iast0 rfl rfl (by decide +kernel) ?_
  refine Go_st rfl rfl ?_
  refine Go_st rfl rfl ?_
  refine Go_st rfl rfl ?_
  refine Go_st rfl rfl ?_
  refine Go_st rfl rfl ?_
  refine Go_st rfl rfl ?_
  refine Go_zald (v := 0) rfl rfl (by decide +kernel) (by decide +kernel) ?_
  refine Go_zast0 rfl rfl (by decide +kernel) ?_
  refine Go_inc (v := 12) rfl rfl (by decide +kernel) ?_
  refine Go_st rfl rfl ?_
  refine Go_st rfl rfl ?_
  refine Go_st rfl rfl ?_
  refine Go_st rfl rfl ?_
  refine Go_ifF (by decide +kernel) ?_
  refine Go_st rfl rfl ?_
  refine Go_st rfl rfl ?_
  refine Go_st rfl rfl ?_
  refine Go_st rfl rfl ?_
  refine Go_st rfl rfl ?_
  refine Go_st rfl rfl ?_
  refine Go_iald (v := 0) rfl rfl (by decide +kernel) (by decide +kernel) ?_
  refine Go_iast0 rfl rfl (by decide +kernel) ?_
  refine Go_st rfl rfl ?_
  refine Go_st rfl rfl ?_
  refine Go_st rfl rfl ?_
  refine Go_st rfl rfl ?_
  refine Go_st rfl rfl ?_
  refine Go_st rfl rfl ?_
  refine Go_iald (v := 0) rfl rfl (by decide +kernel) (by decide +kernel) ?_
  refine Go_iast0 rfl rfl (by decide +kernel) ?_
  refine Go_st rfl rfl ?_
  refine Go_st rfl rfl ?_
  refine Go_st rfl rfl ?_
  refine Go_st rfl rfl ?_
  refine Go_st rfl rfl ?_
  refine Go_st rfl rfl ?_
  refine Go_zald (v := 0) rfl rfl (by decide +kernel) (by decide +kernel) ?_
  refine Go_zast0 rfl rfl (by decide +kernel) ?_
  refine Go_inc (v := 13) rfl rfl (by decide +kernel) ?_
  refine Go_st rfl rfl ?_
  refine Go_st rfl rfl ?_
  refine Go_st rfl rfl ?_
  refine Go_st rfl rfl ?_
  refine Go_ifF (by decide +kernel) ?_
  refine Go_st rfl rfl ?_
  refine Go_st rfl rfl ?_
  refine Go_st rfl rfl ?_
  refine Go_st rfl rfl ?_
  refine Go_st rfl rfl ?_
  refine Go_st rfl rfl ?_
  refine Go_iald (v := 0) rfl rfl (by decide +kernel) (by decide +kernel) ?_
  refine Go_iast0 rfl rfl (by decide +kernel) ?_
  refine Go_st rfl rfl ?_
  refine Go_st rfl rfl ?_
  refine Go_st rfl rfl ?_
  refine Go_st rfl rfl ?_
  refine Go_st rfl rfl ?_
  refine Go_st rfl rfl ?_
  refine Go_iald (v := 0) rfl rfl (by decide +kernel) (by decide +kernel) ?_
  refine Go_iast0 rfl rfl (by decide +kernel) ?_
  refine Go_st rfl rfl ?_
  refine Go_st rfl rfl ?_
  refine Go_st rfl rfl ?_
  refine Go_st rfl rfl ?_
  refine Go_st rfl rfl ?_
  refine Go_st rfl rfl ?_
  refine Go_zald (v := 0) rfl rfl (by decide +kernel) (by decide +kernel) ?_
  refine Go_zast0 rfl rfl (by decide +kernel) ?_
  refine Go_inc (v := 14) rfl rfl (by decide +kernel) ?_
  refine Go_st rfl rfl ?_
  refine Go_st rfl rfl ?_
  refine Go_st rfl rfl ?_
  refine Go_st rfl rfl ?_
  refine Go_ifF (by decide +kernel) ?_
  refine Go_st rfl rfl ?_
  refine Go_st rfl rfl ?_
  refine Go_st rfl rfl ?_
  refine Go_st rfl rfl ?_
  refine Go_st rfl rfl ?_
  refine Go_st rfl rfl ?_
  refine Go_iald (v := 0) rfl rfl (by decide +kernel) (by decide +kernel) ?_
  refine Go_iast0 rfl rfl (by decide +kernel) ?_
  refine Go_st rfl rfl ?_
  refine Go_st rfl rfl ?_
  refine Go_st rfl rfl ?_
  refine Go_st rfl rfl ?_
  refine Go_st rfl rfl ?_
  refine Go_st rfl rfl ?_
  refine Go_iald (v := 0) rfl rfl (by decide +kernel) (by decide +kernel) ?_
  refine Go_iast0 rfl rfl (by decide +kernel) ?_
  refine Go_st rfl rfl ?_
  refine Go_st rfl rfl ?_
  refine Go_st rfl rfl ?_
  refine Go_st rfl rfl ?_
  refine Go_st rfl rfl ?_
  refine Go_st rfl rfl ?_
  refine Go_zald (v := 0) rfl rfl (by decide +kernel) (by decide +kernel) ?_
  refine Go_zast0 rfl rfl (by decide +kernel) ?_
  refine Go_inc (v := 15) rfl rfl (by decide +kernel) ?_
  refine Go_st rfl rfl ?_
  refine Go_st rfl rfl ?_
  refine Go_st rfl rfl ?_
  refine Go_st rfl rfl ?_
  refine Go_ifF (by decide +kernel) ?_
  refine Go_st rfl rfl ?_
  refine Go_st rfl rfl ?_
  refine Go_st rfl rfl ?_
  refine Go_st rfl rfl ?_
  refine Go_st rfl rfl ?_
  refine Go_st rfl rfl ?_
  refine Go_iald (v := 0) rfl rfl (by decide +kernel) (by decide +kernel) ?_
  refine Go_iast0 rfl rfl (by decide +kernel) ?_
  refine Go_st rfl rfl ?_
  refine Go_st rfl rfl ?_
  refine Go_st rfl rfl ?_
  refine Go_st rfl rfl ?_
  refine Go_st rfl rfl ?_
  refine Go_st rfl rfl ?_
  refine Go_iald (v := 0) rfl rfl (by decide +kernel) (by decide +kernel) ?_
  refine Go_iast0 rfl rfl (by decide +kernel) ?_
  refine Go_st rfl rfl ?_
  refine Go_st rfl rfl ?_
  refine Go_st rfl rfl ?_
  refine Go_st rfl rfl ?_
  refine Go_st rfl rfl ?_
  refine Go_st rfl rfl ?_
  refine Go_zald (v := 0) rfl rfl (by decide +kernel) (by decide +kernel) ?_
  refine Go_zast0 rfl rfl (by decide +kernel) ?_
  refine Go_inc (v := 16) rfl rfl (by decide +kernel) ?_
  refine Go_st rfl rfl ?_
  refine Go_st rfl rfl ?_
  refine Go_st rfl rfl ?_
  refine Go_st rfl rfl ?_
  refine Go_ifF (by decide +kernel) ?_
  refine Go_st rfl rfl ?_
  refine Go_st rfl rfl ?_
  refine Go_st rfl rfl ?_
  refine Go_st rfl rfl ?_
  refine Go_st rfl rfl ?_
  refine Go_st rfl rfl ?_
  refine Go_iald (v := 0) rfl rfl (by decide +kernel) (by decide +kernel) ?_
  refine Go_iast0 rfl rfl (by decide +kernel) ?_
  refine Go_st rfl rfl ?_
  refine Go_st rfl rfl ?_
  refine Go_st rfl rfl ?_
  refine Go_st rfl rfl ?_
  refine Go_st rfl rfl ?_
  refine Go_st rfl rfl ?_
  refine Go_iald (v := 0) rfl rfl (by decide +kernel) (by decide +kernel) ?_
  refine Go_iast0 rfl rfl (by decide +kernel) ?_
  refine Go_st rfl rfl ?_
  refine Go_st rfl rfl ?_
  refine Go_st rfl rfl ?_
  refine Go_st rfl rfl ?_
  refine Go_st rfl rfl ?_
  refine Go_st rfl rfl ?_
  refine Go_zald (v := 0) rfl rfl (by decide +kernel) (by decide +kernel) ?_
  refine Go_zast0 rfl rfl (by decide +kernel) ?_
  refine Go_inc (v := 17) rfl rfl (by decide +kernel) ?_
  refine Go_st rfl rfl ?_
  refine Go_st rfl rfl ?_
  refine Go_st rfl rfl ?_
  refine Go_st rfl rfl ?_
  refine Go_ifF (by decide +kernel) ?_
  refine Go_st rfl rfl ?_
  refine Go_st rfl rfl ?_
  refine Go_st rfl rfl ?_
  refine Go_st rfl rfl ?_
  refine Go_st rfl rfl ?_
  refine Go_st rfl rfl ?_
  refine Go_iald (v := 0) rfl rfl (by decide +kernel) (by decide +kernel) ?_
  refine Go_iast0 rfl rfl (by decide +kernel) ?_
  refine Go_st rfl rfl ?_
  refine Go_st rfl rfl ?_
  refine Go_st rfl rfl ?_
  refine Go_st rfl rfl ?_
  refine Go_st rfl rfl ?_
  refine Go_st rfl rfl ?_
  refine Go_iald (v := 0) rfl rfl (by decide +kernel) (by decide +kernel) ?_
  refine Go_iast0 rfl rfl (by decide +kernel) ?_
  refine Go_st rfl rfl ?_
  refine Go_st rfl rfl ?_
  refine Go_st rfl rfl ?_
  refine Go_st rfl rfl ?_
  refine Go_st rfl rfl ?_
  refine Go_st rfl rfl ?_
  refine Go_zald (v := 0) rfl rfl (by decide +kernel) (by decide +kernel) ?_
  refine Go_zast0 rfl rfl (by decide +kernel) ?_
  refine Go_inc (v := 18) rfl rfl (by decide +kernel) ?_
  refine Go_st rfl rfl ?_
  refine Go_st rfl rfl ?_
  refine Go_st rfl rfl ?_
  refine Go_st rfl rfl ?_
  refine Go_ifF (by decide +kernel) ?_
  refine Go_st rfl rfl ?_
  refine Go_st rfl rfl ?_
  refine Go_st rfl rfl ?_
  refine Go_st rfl rfl ?_
  refine Go_st rfl rfl ?_
  refine Go_st rfl rfl ?_
  refine Go_iald (v := 0) rfl rfl (by decide +kernel) (by decide +kernel) ?_
  refine Go_iast0 rfl rfl (by decide +kernel) ?_
  refine Go_st rfl rfl ?_
  refine Go_st rfl rfl ?_
  refine Go_st rfl rfl ?_
  refine Go_st rfl rfl ?_
  refine Go_st rfl rfl ?_
  refine Go_st rfl rfl ?_
  refine Go_iald (v := 0) rfl rfl (by decide +kernel) (by decide +kernel) ?_
  refine Go_iast0 rfl rfl (by decide +kernel) ?_
  refine Go_st rfl rfl ?_
  refine Go_st rfl rfl ?_
  refine Go_st rfl rfl ?_
  refine Go_st rfl rfl ?_
  refine Go_st rfl rfl ?_
  refine Go_st rfl rfl ?_
  refine Go_zald (v := 0) rfl rfl (by decide +kernel) (by decide +kernel) ?_
  refine Go_zast0 rfl rfl (by decide +kernel) ?_
  refine Go_inc (v := 19) rfl rfl (by decide +kernel) ?_
  refine Go_st rfl rfl ?_
  refine Go_st rfl rfl ?_
  refine Go_st rfl rfl ?_
  refine Go_st rfl rfl ?_
  refine Go_ifF (by decide +kernel) ?_
  refine Go_st rfl rfl ?_
  refine Go_st rfl rfl ?_
  refine Go_st rfl rfl ?_
  refine Go_st rfl rfl ?_
  refine Go_st rfl rfl ?_
  refine Go_st rfl rfl ?_
  refine Go_iald (v := 0) rfl rfl (by decide +kernel) (by decide +kernel) ?_
  refine Go_iast0 rfl rfl (by decide +kernel) ?_
  refine Go_st rfl rfl ?_
  refine Go_st rfl rfl ?_
  refine Go_st rfl rfl ?_
  refine Go_st rfl rfl ?_
  refine Go_st rfl rfl ?_
  refine Go_st rfl rfl ?_
  refine Go_iald (v := 0) rfl rfl (by decide +kernel) (by decide +kernel) ?_
  refine Go_iast0 rfl rfl (by decide +kernel) ?_
  refine Go_st rfl rfl ?_
  refine Go_st rfl rfl ?_
  refine Go_st rfl rfl ?_
  refine Go_st rfl rfl ?_
  refine Go_st rfl rfl ?_
  refine Go_st rfl rfl ?_
  refine Go_zald (v := 0) rfl rfl (by decide +kernel) (by decide +kernel) ?_
  refine Go_zast0 rfl rfl (by decide +kernel) ?_
  refine Go_inc (v := 20) rfl rfl (by decide +kernel) ?_
  refine Go_st rfl rfl ?_
  refine Go_st rfl rfl ?_
  refine Go_st rfl rfl ?_
  refine Go_st rfl rfl ?_
  refine Go_ifT (by decide +kernel) ?_
  exact Go_ret rfl ⟨rfl, rfl⟩
set_option maxRecDepth 20000 in
set_option maxHeartbeats 4000000 in
theorem rx_X5_take_43_15 (d : Nat)  : pm_Rt pm_P (d + 1) 10 (hp0) [.ref 43, .ref 15] (hp0) none := by
  refine Rt_of aiX5_take (Nat.le_of_ble_eq_true rfl) ?_
  refine Go_st rfl rfl ?_
  refine Go_st rfl rfl ?_
  refine Go_st rfl rfl ?_
  refine Go_sm rfl rfl (sm_f rfl) ?_
  refine Go_st rfl rfl ?_
  refine Go_st rfl rfl ?_
  refine Go_st rfl rfl ?_
  refine Go_sm rfl rfl (sm_f rfl) ?_
  refine Go_st rfl rfl ?_
  refine Go_st rfl rfl ?_
  refine Go_st rfl rfl ?_
  refine Go_sm rfl rfl (sm_f rfl) ?_
  refine Go_st rfl rfl ?_
  refine Go_st rfl rfl ?_
  refine Go_st rfl rfl ?_
  refine Go_sm rfl rfl (sm_f rfl) ?_
  refine Go_st rfl rfl ?_
  refine Go_st rfl rfl ?_
  refine Go_st rfl rfl ?_
  refine Go_sm rfl rfl (sm_f rfl) ?_
  refine Go_st rfl rfl ?_
  refine Go_st rfl rfl ?_
  refine Go_st rfl rfl ?_
  refine Go_sm rfl rfl (sm_f rfl) ?_
  refine Go_st rfl rfl ?_
  refine Go_st rfl rfl ?_
  refine Go_st rfl rfl ?_
  refine Go_sm rfl rfl (sm_f rfl) ?_
  refine Go_st rfl rfl ?_
  refine Go_st rfl rfl ?_
  refine Go_st rfl rfl ?_
  refine Go_st rfl rfl ?_
  refine Go_st rfl rfl ?_
  refine Go_ifF (by decide +kernel) ?_
  refine Go_st rfl rfl ?_
  refine Go_st rfl rfl ?_
  refine Go_st rfl rfl ?_
  refine Go_st rfl rfl ?_
  refine Go_st rfl rfl ?_
  refine Go_st rfl rfl ?_
  refine Go_iald (v := 0) rfl rfl (by decide +kernel) (by decide +kernel) ?_
  refine Go_iast0 rfl rfl (by decide +kernel) ?_
  refine Go_st rfl rfl ?_
  refine Go_st rfl rfl ?_
  refine Go_st rfl rfl ?_
  refine Go_st rfl rfl ?_
  refine Go_st rfl rfl ?_
  refine Go_st rfl rfl ?_
  refine Go_iald (v := 0) rfl rfl (by decide +kernel) (by decide +kernel) ?_
  refine Go_iast0 rfl rfl (by decide +kernel) ?_
  refine Go_st rfl rfl ?_
  refine Go_st rfl rfl ?_
  refine Go_st rfl rfl ?_
  refine Go_st rfl rfl ?_
  refine Go_st rfl rfl ?_
  refine Go_st rfl rfl ?_
  refine Go_iald (v := 0) rfl rfl (by decide +kernel) (by decide +kernel) ?_
  refine Go_iast0 rfl rfl (by decide +kernel) ?_
  refine Go_st rfl rfl ?_
  refine Go_st rfl rfl ?_
  refine Go_st rfl rfl ?_
  refine Go_st rfl rfl ?_
  refine Go_st rfl rfl ?_
  refine Go_st rfl rfl ?_
  refine Go_iald (v := 0) rfl rfl (by decide +kernel) (by decide +kernel) ?_
  refine Go_iast0 rfl rfl (by decide +kernel) ?_
  refine Go_st rfl rfl ?_
  refine Go_st rfl rfl ?_
  refine Go_st rfl rfl ?_
  refine Go_st rfl rfl ?_
  refine Go_st rfl rfl ?_
  refine Go_st rfl rfl ?_
  refine Go_iald (v := 0) rfl rfl (by decide +kernel) (by decide +kernel) ?_
  refine Go_iast0 rfl rfl (by decide +kernel) ?_
  refine Go_inc (v := 1) rfl rfl (by decide +kernel) ?_
  refine Go_st rfl rfl ?_
  refine Go_st rfl rfl ?_
  refine Go_st rfl rfl ?_
  refine Go_st rfl rfl ?_
  refine Go_ifF (by decide +kernel) ?_
  refine Go_st rfl rfl ?_
  refine Go_st rfl rfl ?_
  refine Go_st rfl rfl ?_
  refine Go_st rfl rfl ?_
  refine Go_st rfl rfl ?_
  refine Go_st rfl rfl ?_
  refine Go_iald (v := 0) rfl rfl (by decide +kernel) (by decide +kernel) ?_
  refine Go_iast0 rfl rfl (by decide +kernel) ?_
  refine Go_st rfl rfl ?_
  refine Go_st rfl rfl ?_
  refine Go_st rfl rfl ?_
  refine Go_st rfl rfl ?_
  refine Go_st rfl rfl ?_
  refine Go_st rfl rfl ?_
  refine Go_iald (v := 0) rfl rfl (by decide +kernel) (by decide +kernel) ?_
  refine Go_iast0 rfl rfl (by decide +kernel) ?_
  refine Go_st rfl rfl ?_
  refine Go_st rfl rfl ?_
  refine Go_st rfl rfl ?_
  refine Go_st rfl rfl ?_
  refine Go_st rfl rfl ?_
  refine Go_st rfl rfl ?_
  refine Go_iald (v := 0) rfl rfl (by decide +kernel) (by decide +kernel) ?_
  refine Go_iast0 rfl rfl (by decide +kernel) ?_
  refine Go_st rfl rfl ?_
  refine Go_st rfl rfl ?_
  refine Go_st rfl rfl ?_
  refine Go_st rfl rfl ?_
  refine Go_st rfl rfl ?_
  refine Go_st rfl rfl ?_
  refine Go_iald (v := 0) rfl rfl (by decide +kernel) (by decide +kernel) ?_
  refine Go_iast0 rfl rfl (by decide +kernel) ?_
  refine Go_st rfl rfl ?_
  refine Go_st rfl rfl ?_
  refine Go_st rfl rfl ?_
  refine Go_st rfl rfl ?_
  refine Go_st rfl rfl ?_
  refine Go_st rfl rfl ?_
  refine Go_iald (v := 0) rfl rfl (by decide +kernel) (by decide +kernel) ?_
  refine Go_iast0 rfl rfl (by decide +kernel) ?_
  refine Go_inc (v := 2) rfl rfl (by decide +kernel) ?_
  refine Go_st rfl rfl ?_
  refine Go_st rfl rfl ?_
  refine Go_st rfl rfl ?_
  refine Go_st rfl rfl ?_
  refine Go_ifF (by decide +kernel) ?_
  refine Go_st rfl rfl ?_
  refine Go_st rfl rfl ?_
  refine Go_st rfl rfl ?_
  refine Go_st rfl rfl ?_
  refine Go_st rfl rfl ?_
  refine Go_st rfl rfl ?_
  refine Go_iald (v := 0) rfl rfl (by decide +kernel) (by decide +kernel) ?_
  refine Go_iast0 rfl rfl (by decide +kernel) ?_
  refine Go_st rfl rfl ?_
  refine Go_st rfl rfl ?_
  refine Go_st rfl rfl ?_
  refine Go_st rfl rfl ?_
  refine Go_st rfl rfl ?_
  refine Go_st rfl rfl ?_
  refine Go_iald (v := 0) rfl rfl (by decide +kernel) (by decide +kernel) ?_
  refine Go_iast0 rfl rfl (by decide +kernel) ?_
  refine Go_st rfl rfl ?_
  refine Go_st rfl rfl ?_
  refine Go_st rfl rfl ?_
  refine Go_st rfl rfl ?_
  refine Go_st rfl rfl ?_
  refine Go_st rfl rfl ?_
  refine Go_iald (v := 0) rfl rfl (by decide +kernel) (by decide +kernel) ?_
  refine Go_iast0 rfl rfl (by decide +kernel) ?_
  refine Go_st rfl rfl ?_
  refine Go_st rfl rfl ?_
  refine Go_st rfl rfl ?_
  refine Go_st rfl rfl ?_
  refine Go_st rfl rfl ?_
  refine Go_st rfl rfl ?_
  refine Go_iald (v := 0) rfl rfl (by decide +kernel) (by decide +kernel) ?_
  refine Go_iast0 rfl rfl (by decide +kernel) ?_
  refine Go_st rfl rfl ?_
  refine Go_st rfl rfl ?_
  refine Go_st rfl rfl ?_
  refine Go_st rfl rfl ?_
  refine Go_st rfl rfl ?_
  refine Go_st rfl rfl ?_
  refine Go_iald (v := 0) rfl rfl (by decide +kernel) (by decide +kernel) ?_
  refine Go_iast0 rfl rfl (by decide +kernel) ?_
  refine Go_inc (v := 3) rfl rfl (by decide +kernel) ?_
  refine Go_st rfl rfl ?_
  refine Go_st rfl rfl ?_
  refine Go_st rfl rfl ?_
  refine Go_st rfl rfl ?_
  refine Go_ifF (by decide +kernel) ?_
  refine Go_st rfl rfl ?_
  refine Go_st rfl rfl ?_
  refine Go_st rfl rfl ?_
  refine Go_st rfl rfl ?_
  refine Go_st rfl rfl ?_
  refine Go_st rfl rfl ?_
  refine Go_iald (v := 0) rfl rfl (by decide +kernel) (by decide +kernel) ?_
  refine Go_iast0 rfl rfl (by decide +kernel) ?_
  refine Go_st rfl rfl ?_
  refine Go_st rfl rfl ?_
  refine Go_st rfl rfl ?_
  refine Go_st rfl rfl ?_
  refine Go_st rfl rfl ?_
  refine Go_st rfl rfl ?_
  refine Go_iald (v := 0) rfl rfl (by decide +kernel) (by decide +kernel) ?_
  refine Go_iast0 rfl rfl (by decide +kernel) ?_
  refine Go_st rfl rfl ?_
  refine Go_st rfl rfl ?_
  refine Go_st rfl rfl ?_
  refine Go_st rfl rfl ?_
  refine Go_st rfl rfl ?_
  refine Go_st rfl rfl ?_
  refine Go_iald (v := 0) rfl rfl (by decide +kernel) (by decide +kernel) ?_
  refine Go_iast0 rfl rfl (by decide +kernel) ?_
  refine Go_st rfl rfl ?_
  refine Go_st rfl rfl ?_
  refine Go_st rfl rfl ?_
  refine Go_st rfl rfl ?_
  refine Go_st rfl rfl ?_
  refine Go_st rfl rfl ?_
  refine Go_iald (v := 0) rfl rfl (by decide +kernel) (by decide +kernel) ?_
  refine Go_iast0 rfl rfl (by decide +kernel) ?_
  refine Go_st rfl rfl ?_
  refine Go_st rfl rfl ?_
  refine Go_st rfl rfl ?_
  refine Go_st rfl rfl ?_
  refine Go_st rfl rfl ?_
  refine Go_st rfl rfl ?_
  refine Go_iald (v := 0) rfl rfl (by decide +kernel) (by decide +kernel) ?_
  refine Go_iast0 rfl rfl (by decide +kernel) ?_
  refine Go_inc (v := 4) rfl rfl (by decide +kernel) ?_
  refine Go_st rfl rfl ?_
  refine Go_st rfl rfl ?_
  refine Go_st rfl rfl ?_
  refine Go_st rfl rfl ?_
  refine Go_ifF (by decide +kernel) ?_
  refine Go_st rfl rfl ?_
  refine Go_st rfl rfl ?_
  refine Go_st rfl rfl ?_
  refine Go_st rfl rfl ?_
  refine Go_st rfl rfl ?_
  refine Go_st rfl rfl ?_
  refine Go_iald (v := 0) rfl rfl (by decide +kernel) (by decide +kernel) ?_
  refine Go_iast0 rfl rfl (by decide +kernel) ?_
  refine Go_st rfl rfl ?_
  refine Go_st rfl rfl ?_
  refine Go_st rfl rfl ?_
  refine Go_st rfl rfl ?_
  refine Go_st rfl rfl ?_
  refine Go_st rfl rfl ?_
  refine Go_iald (v := 0) rfl rfl (by decide +kernel) (by decide +kernel) ?_
  refine Go_iast0 rfl rfl (by decide +kernel) ?_
  refine Go_st rfl rfl ?_
  refine Go_st rfl rfl ?_
  refine Go_st rfl rfl ?_
  refine Go_st rfl rfl ?_
  refine Go_st rfl rfl ?_
  refine Go_st rfl rfl ?_
  refine Go_iald (v := 0) rfl rfl (by decide +kernel) (by decide +kernel) ?_
  refine Go_iast0 rfl rfl (by decide +kernel) ?_
  refine Go_st rfl rfl ?_
  refine Go_st rfl rfl ?_
  refine Go_st rfl rfl ?_
  refine Go_st rfl rfl ?_
  refine Go_st rfl rfl ?_
  refine Go_st rfl rfl ?_
  refine Go_iald (v := 0) rfl rfl (by decide +kernel) (by decide +kernel) ?_
  refine Go_iast0 rfl rfl (by decide +kernel) ?_
  refine Go_st rfl rfl ?_
  refine Go_st rfl rfl ?_
  refine Go_st rfl rfl ?_
  refine Go_st rfl rfl ?_
  refine Go_st rfl rfl ?_
  refine Go_st rfl rfl ?_
  refine Go_iald (v := 0) rfl rfl (by decide +kernel) (by decide +kernel) ?_
  refine Go_iast0 rfl rfl (by decide +kernel) ?_
  refine Go_inc (v := 5) rfl rfl (by decide +kernel) ?_
  refine Go_st rfl rfl ?_
  refine Go_st rfl rfl ?_
  refine Go_st rfl rfl ?_
  refine Go_st rfl rfl ?_
  refine Go_ifF (by decide +kernel) ?_
  refine Go_st rfl rfl ?_
  refine Go_st rfl rfl ?_
  refine Go_st rfl rfl ?_
  refine Go_st rfl rfl ?_
  refine Go_st rfl rfl ?_
  refine Go_st rfl rfl ?_
  refine Go_iald (v := 0) rfl rfl (by decide +kernel) (by decide +kernel) ?_
  refine Go_iast0 rfl rfl (by decide +kernel) ?_
  refine Go_st rfl rfl ?_
  refine Go_st rfl rfl ?_
  refine Go_st rfl rfl ?_
  refine Go_st rfl rfl ?_
  refine Go_st rfl rfl ?_
  refine Go_st rfl rfl ?_
  refine Go_iald (v := 0) rfl rfl (by decide +kernel) (by decide +kernel) ?_
  refine Go_iast0 rfl rfl (by decide +kernel) ?_
  refine Go_st rfl rfl ?_
  refine Go_st rfl rfl ?_
  refine Go_st rfl rfl ?_
  refine Go_st rfl rfl ?_
  refine Go_st rfl rfl ?_
  refine Go_st rfl rfl ?_
  refine Go_iald (v := 0) rfl rfl (by decide +kernel) (by decide +kernel) ?_
  refine Go_iast0 rfl rfl (by decide +kernel) ?_
  refine Go_st rfl rfl ?_
  refine Go_st rfl rfl ?_
  refine Go_st rfl rfl ?_
  refine Go_st rfl rfl ?_
  refine Go_st rfl rfl ?_
  refine Go_st rfl rfl ?_
  refine Go_iald (v := 0) rfl rfl (by decide +kernel) (by decide +kernel) ?_
  refine Go_iast0 rfl rfl (by decide +kernel) ?_
  refine Go_st rfl rfl ?_
  refine Go_st rfl rfl ?_
  refine Go_st rfl rfl ?_
  refine Go_st rfl rfl ?_
  refine Go_st rfl rfl ?_
  refine Go_st rfl rfl ?_
  refine Go_iald (v := 0) rfl rfl (by decide +kernel) (by decide +kernel) ?_
  refine Go_iast0 rfl rfl (by decide +kernel) ?_
  refine Go_inc (v := 6) rfl rfl (by decide +kernel) ?_
  refine Go_st rfl rfl ?_
  refine Go_st rfl rfl ?_
  refine Go_st rfl rfl ?_
  refine Go_st rfl rfl ?_
  refine Go_ifF (by decide +kernel) ?_
  refine Go_st rfl rfl ?_
  refine Go_st rfl rfl ?_
  refine Go_st rfl rfl ?_
  refine Go_st rfl rfl ?_
  refine Go_st rfl rfl ?_
  refine Go_st rfl rfl ?_
  refine Go_iald (v := 0) rfl rfl (by decide +kernel) (by decide +kernel) ?_
  refine Go_iast0 rfl rfl (by decide +kernel) ?_
  refine Go_st rfl rfl ?_
  refine Go_st rfl rfl ?_
  refine Go_st rfl rfl ?_
  refine Go_st rfl rfl ?_
  refine Go_st rfl rfl ?_
  refine Go_st rfl rfl ?_
  refine Go_iald (v := 0) rfl rfl (by decide +kernel) (by decide +kernel) ?_
  refine Go_iast0 rfl rfl (by decide +kernel) ?_
  refine Go_st rfl rfl ?_
  refine Go_st rfl rfl ?_
  refine Go_st rfl rfl ?_
  refine Go_st rfl rfl ?_
  refine Go_st rfl rfl ?_
  refine Go_st rfl rfl ?_
  refine Go_iald (v := 0) rfl rfl (by decide +kernel) (by decide +kernel) ?_
  refine Go_iast0 rfl rfl (by decide +kernel) ?_
  refine Go_st rfl rfl ?_
  refine Go_st rfl rfl ?_
  refine Go_st rfl rfl ?_
  refine Go_st rfl rfl ?_
  refine Go_st rfl rfl ?_
  refine Go_st rfl rfl ?_
  refine Go_iald (v := 0) rfl rfl (by decide +kernel) (by decide +kernel) ?_
  refine Go_iast0 rfl rfl (by decide +kernel) ?_
  refine Go_st rfl rfl ?_
  refine Go_st rfl rfl ?_
  refine Go_st rfl rfl ?_
  refine Go_st rfl rfl ?_
  refine Go_st rfl rfl ?_
  refine Go_st rfl rfl ?_
  refine Go_iald (v := 0) rfl rfl (by decide +kernel) (by decide +kernel) ?_
  refine Go_iast0 rfl rfl (by decide +kernel) ?_
  refine Go_inc (v := 7) rfl rfl (by decide +kernel) ?_
  refine Go_st rfl rfl ?_
  refine Go_st rfl rfl ?_
  refine Go_st rfl rfl ?_
  refine Go_st rfl rfl ?_
  refine Go_ifF (by decide +kernel) ?_
  refine Go_st rfl rfl ?_
  refine Go_st rfl rfl ?_
  refine Go_st rfl rfl ?_
  refine Go_st rfl rfl ?_
  refine Go_st rfl rfl ?_
  refine Go_st rfl rfl ?_
  refine Go_iald (v := 0) rfl rfl (by decide +kernel) (by decide +kernel) ?_
  refine Go_iast0 rfl rfl (by decide +kernel) ?_
  refine Go_st rfl rfl ?_
  refine Go_st rfl rfl ?_
  refine Go_st rfl rfl ?_
  refine Go_st rfl rfl ?_
  refine Go_st rfl rfl ?_
  refine Go_st rfl rfl ?_
  refine Go_iald (v := 0) rfl rfl (by decide +kernel) (by decide +kernel) ?_
  refine Go_iast0 rfl rfl (by decide +kernel) ?_
  refine Go_st rfl rfl ?_
  refine Go_st rfl rfl ?_
  refine Go_st rfl rfl ?_
  refine Go_st rfl rfl ?_
  refine Go_st rfl rfl ?_
  refine Go_st rfl rfl ?_
  refine Go_iald (v := 0) rfl rfl (by decide +kernel) (by decide +kernel) ?_
  refine Go_iast0 rfl rfl (by decide +kernel) ?_
  refine Go_st rfl rfl ?_
  refine Go_st rfl rfl ?_
  refine Go_st rfl rfl ?_
  refine Go_st rfl rfl ?_
  refine Go_st rfl rfl ?_
  refine Go_st rfl rfl ?_
  refine Go_iald (v := 0) rfl rfl (by decide +kernel) (by decide +kernel) ?_
  refine Go_iast0 rfl rfl (by decide +kernel) ?_
  refine Go_st rfl rfl ?_
  refine Go_st rfl rfl ?_
  refine Go_st rfl rfl ?_
  refine Go_st rfl rfl ?_
  refine Go_st rfl rfl ?_
  refine Go_st rfl rfl ?_
  refine Go_iald (v := 0) rfl rfl (by decide +kernel) (by decide +kernel) ?_
  refine Go_iast0 rfl rfl (by decide +kernel) ?_
  refine Go_inc (v := 8) rfl rfl (by decide +kernel) ?_
  refine Go_st rfl rfl ?_
  refine Go_st rfl rfl ?_
  refine Go_st rfl rfl ?_
  refine Go_st rfl rfl ?_
  refine Go_ifT (by decide +kernel) ?_
  refine Go_st rfl rfl ?_
  refine Go_st rfl rfl ?_
  refine Go_st rfl rfl ?_
  refine Go_st rfl rfl ?_
  refine Go_st rfl rfl ?_
  refine Go_ifF (by decide +kernel) ?_
  refine Go_st rfl rfl ?_
  refine Go_st rfl rfl ?_
  refine Go_st rfl rfl ?_
  refine Go_st rfl rfl ?_
  refine Go_st rfl rfl ?_
  refine Go_st rfl rfl ?_
  refine Go_iald (v := 0) rfl rfl (by decide +kernel) (by decide +kernel) ?_
  refine Go_iast0 rfl rfl (by decide +kernel) ?_
  refine Go_st rfl rfl ?_
  refine Go_st rfl rfl ?_
  refine Go_st rfl rfl ?_
  refine Go_st rfl rfl ?_
  refine Go_st rfl rfl ?_
  refine Go_st rfl rfl ?_
  refine Go_iald (v := 0) rfl rfl (by decide +kernel) (by decide +kernel) ?_
  refine Go_iast0 rfl rfl (by decide +kernel) ?_
  refine Go_st rfl rfl ?_
  refine Go_st rfl rfl ?_
  refine Go_st rfl rfl ?_
  refine Go_st rfl rfl ?_
  refine Go_st rfl rfl ?_
  refine Go_st rfl rfl ?_
  refine Go_zald (v := 0) rfl rfl (by decide +kernel) (by decide +kernel) ?_
  refine Go_zast0 rfl rfl (by decide +kernel) ?_
  refine Go_inc (v := 1) rfl rfl (by decide +kernel) ?_
  refine Go_st rfl rfl ?_
  refine Go_st rfl rfl ?_
  refine Go_st rfl rfl ?_
  refine Go_st rfl rfl ?_
  refine Go_ifF (by decide +kernel) ?_
  refine Go_st rfl rfl ?_
  refine Go_st rfl rfl ?_
  refine Go_st rfl rfl ?_
  refine Go_st rfl rfl ?_
  refine Go_st rfl rfl ?_
  refine Go_st rfl rfl ?_
  refine Go_iald (v := 0) rfl rfl (by decide +kernel) (by decide +kernel) ?_
  refine Go_iast0 rfl rfl (by decide +kernel) ?_
  refine Go_st rfl rfl ?_
  refine Go_st rfl rfl ?_
  refine Go_st rfl rfl ?_
  refine Go_st rfl rfl ?_
  refine Go_st rfl rfl ?_
  refine Go_st rfl rfl ?_
  refine Go_iald (v := 0) rfl rfl (by decide +kernel) (by decide +kernel) ?_
  refine Go_iast0 rfl rfl (by decide +kernel) ?_
  refine Go_st rfl rfl ?_
  refine Go_st rfl rfl ?_
  refine Go_st rfl rfl ?_
  refine Go_st rfl rfl ?_
  refine Go_st rfl rfl ?_
  refine Go_st rfl rfl ?_
  refine Go_zald (v := 0) rfl rfl (by decide +kernel) (by decide +kernel) ?_
  refine Go_zast0 rfl rfl (by decide +kernel) ?_
  refine Go_inc (v := 2) rfl rfl (by decide +kernel) ?_
  refine Go_st rfl rfl ?_
  refine Go_st rfl rfl ?_
  refine Go_st rfl rfl ?_
  refine Go_st rfl rfl ?_
  refine Go_ifF (by decide +kernel) ?_
  refine Go_st rfl rfl ?_
  refine Go_st rfl rfl ?_
  refine Go_st rfl rfl ?_
  refine Go_st rfl rfl ?_
  refine Go_st rfl rfl ?_
  refine Go_st rfl rfl ?_
  refine Go_iald (v := 0) rfl rfl (by decide +kernel) (by decide +kernel) ?_
  refine Go_iast0 rfl rfl (by decide +kernel) ?_
  refine Go_st rfl rfl ?_
  refine Go_st rfl rfl ?_
  refine Go_st rfl rfl ?_
  refine Go_st rfl rfl ?_
  refine Go_st rfl rfl ?_
  refine Go_st rfl rfl ?_
  refine Go_iald (v := 0) rfl rfl (by decide +kernel) (by decide +kernel) ?_
  refine Go_iast0 rfl rfl (by decide +kernel) ?_
  refine Go_st rfl rfl ?_
  refine Go_st rfl rfl ?_
  refine Go_st rfl rfl ?_
  refine Go_st rfl rfl ?_
  refine Go_st rfl rfl ?_
  refine Go_st rfl rfl ?_
  refine Go_zald (v := 0) rfl rfl (by decide +kernel) (by decide +kernel) ?_
  refine Go_zast0 rfl rfl (by decide +kernel) ?_
  refine Go_inc (v := 3) rfl rfl (by decide +kernel) ?_
  refine Go_st rfl rfl ?_
  refine Go_st rfl rfl ?_
  refine Go_st rfl rfl ?_
  refine Go_st rfl rfl ?_
  refine Go_ifF (by decide +kernel) ?_
  refine Go_st rfl rfl ?_
  refine Go_st rfl rfl ?_
  refine Go_st rfl rfl ?_
  refine Go_st rfl rfl ?_
  refine Go_st rfl rfl ?_
  refine Go_st rfl rfl ?_
  refine Go_iald (v := 0) rfl rfl (by decide +kernel) (by decide +kernel) ?_
  refine Go_iast0 rfl rfl (by decide +kernel) ?_
  refine Go_st rfl rfl ?_
  refine Go_st rfl rfl ?_
  refine Go_st rfl rfl ?_
  refine Go_st rfl rfl ?_
  refine Go_st rfl rfl ?_
  refine Go_st rfl rfl ?_
  refine Go_iald (v := 0) rfl rfl (by decide +kernel) (by decide +kernel) ?_
  refine Go_iast0 rfl rfl (by decide +kernel) ?_
  refine Go_st rfl rfl ?_
  refine Go_st rfl rfl ?_
  refine Go_st rfl rfl ?_
  refine Go_st rfl rfl ?_
  refine Go_st rfl rfl ?_
  refine Go_st rfl rfl ?_
  refine Go_zald (v := 0) rfl rfl (by decide +kernel) (by decide +kernel) ?_
  refine Go_zast0 rfl rfl (by decide +kernel) ?_
  refine Go_inc (v := 4) rfl rfl (by decide +kernel) ?_
  refine Go_st rfl rfl ?_
  refine Go_st rfl rfl ?_
  refine Go_st rfl rfl ?_
  refine Go_st rfl rfl ?_
  refine Go_ifF (by decide +kernel) ?_
  refine Go_st rfl rfl ?_
  refine Go_st rfl rfl ?_
  refine Go_st rfl rfl ?_
  refine Go_st rfl rfl ?_
  refine Go_st rfl rfl ?_
  refine Go_st rfl rfl ?_
  refine Go_iald (v := 0) rfl rfl (by decide +kernel) (by decide +kernel) ?_
  refine Go_iast0 rfl rfl (by decide +kernel) ?_
  refine Go_st rfl rfl ?_
  refine Go_st rfl rfl ?_
  refine Go_st rfl rfl ?_
  refine Go_st rfl rfl ?_
  refine Go_st rfl rfl ?_
  refine Go_st rfl rfl ?_
  refine Go_iald (v := 0) rfl rfl (by decide +kernel) (by decide +kernel) ?_
  refine Go_iast0 rfl rfl (by decide +kernel) ?_
  refine Go_st rfl rfl ?_
  refine Go_st rfl rfl ?_
  refine Go_st rfl rfl ?_
  refine Go_st rfl rfl ?_
  refine Go_st rfl rfl ?_
  refine Go_st rfl rfl ?_
  refine Go_zald (v := 0) rfl rfl (by decide +kernel) (by decide +kernel) ?_
  refine Go_zast0 rfl rfl (by decide +kernel) ?_
  refine Go_inc (v := 5) rfl rfl (by decide +kernel) ?_
  refine Go_st rfl rfl ?_
  refine Go_st rfl rfl ?_
  refine Go_st rfl rfl ?_
  refine Go_st rfl rfl ?_
  refine Go_ifF (by decide +kernel) ?_
  refine Go_st rfl rfl ?_
  refine Go_st rfl rfl ?_
  refine Go_st rfl rfl ?_
  refine Go_st rfl rfl ?_
  refine Go_st rfl rfl ?_
  refine Go_st rfl rfl ?_
  refine Go_iald (v := 0) rfl rfl (by decide +kernel) (by decide +kernel) ?_
  refine Go_iast0 rfl rfl (by decide +kernel) ?_
  refine Go_st rfl rfl ?_
  refine Go_st rfl rfl ?_
  refine Go_st rfl rfl ?_
  refine Go_st rfl rfl ?_
  refine Go_st rfl rfl ?_
  refine Go_st rfl rfl ?_
  refine Go_iald (v := 0) rfl rfl (by decide +kernel) (by decide +kernel) ?_
  refine Go_iast0 rfl rfl (by decide +kernel) ?_
  refine Go_st rfl rfl ?_
  refine Go_st rfl rfl ?_
  refine Go_st rfl rfl ?_
  refine Go_st rfl rfl ?_
  refine Go_st rfl rfl ?_
  refine Go_st rfl rfl ?_
  refine Go_zald (v := 0) rfl rfl (by decide +kernel) (by decide +kernel) ?_
  refine Go_zast0 rfl rfl (by decide +kernel) ?_
  refine Go_inc (v := 6) rfl rfl (by decide +kernel) ?_
  refine Go_st rfl rfl ?_
  refine Go_st rfl rfl ?_
  refine Go_st rfl rfl ?_
  refine Go_st rfl rfl ?_
  refine Go_ifF (by decide +kernel) ?_
  refine Go_st rfl rfl ?_
  refine Go_st rfl rfl ?_
  refine Go_st rfl rfl ?_
  refine Go_st rfl rfl ?_
  refine Go_st rfl rfl ?_
  refine Go_st rfl rfl ?_
  refine Go_iald (v := 0) rfl rfl (by decide +kernel) (by decide +kernel) ?_
  refine Go_iast0 rfl rfl (by decide +kernel) ?_
  refine Go_st rfl rfl ?_
  refine Go_st rfl rfl ?_
  refine Go_st rfl rfl ?_
  refine Go_st rfl rfl ?_
  refine Go_st rfl rfl ?_
  refine Go_st rfl rfl ?_
  refine Go_iald (v := 0) rfl rfl (by decide +kernel) (by decide +kernel) ?_
  refine Go_iast0 rfl rfl (by decide +kernel) ?_
  refine Go_st rfl rfl ?_
  refine Go_st rfl rfl ?_
  refine Go_st rfl rfl ?_
  refine Go_st rfl rfl ?_
  refine Go_st rfl rfl ?_
  refine Go_st rfl rfl ?_
  refine Go_zald (v := 0) rfl rfl (by decide +kernel) (by decide +kernel) ?_
  refine Go_zast0 rfl rfl (by decide +kernel) ?_
  refine Go_inc (v := 7) rfl rfl (by decide +kernel) ?_
  refine Go_st rfl rfl ?_
  refine Go_st rfl rfl ?_
  refine Go_st rfl rfl ?_
  refine Go_st rfl rfl ?_
  refine Go_ifF (by decide +kernel) ?_
  refine Go_st rfl rfl ?_
  refine Go_st rfl rfl ?_
  refine Go_st rfl rfl ?_
  refine Go_st rfl rfl ?_
  refine Go_st rfl rfl ?_
  refine Go_st rfl rfl ?_
  refine Go_iald (v := 0) rfl rfl (by decide +kernel) (by decide +kernel) ?_
  refine Go_iast0 rfl rfl (by decide +kernel) ?_
  refine Go_st rfl rfl ?_
  refine Go_st rfl rfl ?_
  refine Go_st rfl rfl ?_
  refine Go_st rfl rfl ?_
  refine Go_st rfl rfl ?_
  refine Go_st rfl rfl ?_
  refine Go_iald (v := 0) rfl rfl (by decide +kernel) (by decide +kernel) ?_
  refine Go_iast0 rfl rfl (by decide +kernel) ?_
  refine Go_st rfl rfl ?_
  refine Go_st rfl rfl ?_
  refine Go_st rfl rfl ?_
  refine Go_st rfl rfl ?_
  refine Go_st rfl rfl ?_
  refine Go_st rfl rfl ?_
  refine Go_zald (v := 0) rfl rfl (by decide +kernel) (by decide +kernel) ?_
  refine Go_zast0 rfl rfl (by decide +kernel) ?_
  refine Go_inc (v := 8) rfl rfl (by decide +kernel) ?_
  refine Go_st rfl rfl ?_
  refine Go_st rfl rfl ?_
  refine Go_st rfl rfl ?_
  refine Go_st rfl rfl ?_
  refine Go_ifF (by decide +kernel) ?_
  refine Go_st rfl rfl ?_
  refine Go_st rfl rfl ?_
  refine Go_st rfl rfl ?_
  refine Go_st rfl rfl ?_
  refine Go_st rfl rfl ?_
  refine Go_st rfl rfl ?_
  refine Go_iald (v := 0) rfl rfl (by decide +kernel) (by decide +kernel) ?_
  refine Go_iast0 rfl rfl (by decide +kernel) ?_
  refine Go_st rfl rfl ?_
  refine Go_st rfl rfl ?_
  refine Go_st rfl rfl ?_
  refine Go_st rfl rfl ?_
  refine Go_st rfl rfl ?_
  refine Go_st rfl rfl ?_
  refine Go_iald (v := 0) rfl rfl (by decide +kernel) (by decide +kernel) ?_
  refine Go_iast0 rfl rfl (by decide +kernel) ?_
  refine Go_st rfl rfl ?_
  refine Go_st rfl rfl ?_
  refine Go_st rfl rfl ?_
  refine Go_st rfl rfl ?_
  refine Go_st rfl rfl ?_
  refine Go_st rfl rfl ?_
  refine Go_zald (v := 0) rfl rfl (by decide +kernel) (by decide +kernel) ?_
  refine Go_zast0 rfl rfl (by decide +kernel) ?_
  refine Go_inc (v := 9) rfl rfl (by decide +kernel) ?_
  refine Go_st rfl rfl ?_
  refine Go_st rfl rfl ?_
  refine Go_st rfl rfl ?_
  refine Go_st rfl rfl ?_
  refine Go_ifF (by decide +kernel) ?_
  refine Go_st rfl rfl ?_
  refine Go_st rfl rfl ?_
  refine Go_st rfl rfl ?_
  refine Go_st rfl rfl ?_
  refine Go_st rfl rfl ?_
  refine Go_st rfl rfl ?_
  refine Go_iald (v := 0) rfl rfl (by decide +kernel) (by decide +kernel) ?_
  refine Go_iast0 rfl rfl (by decide +kernel) ?_
  refine Go_st rfl rfl ?_
  refine Go_st rfl rfl ?_
  refine Go_st rfl rfl ?_
  refine Go_st rfl rfl ?_
  refine Go_st rfl rfl ?_
  refine Go_st rfl rfl ?_
  refine Go_iald (v := 0) rfl rfl (by decide +kernel) (by decide +kernel) ?_
  refine Go_iast0 rfl rfl (by decide +kernel) ?_
  refine Go_st rfl rfl ?_
  refine Go_st rfl rfl ?_
  refine Go_st rfl rfl ?_
  refine Go_st rfl rfl ?_
  refine Go_st rfl rfl ?_
  refine Go_st rfl rfl ?_
  refine Go_zald (v := 0) rfl rfl (by decide +kernel) (by decide +kernel) ?_
  refine Go_zast0 rfl rfl (by decide +kernel) ?_
  refine Go_inc (v := 10) rfl rfl (by decide +kernel) ?_
  refine Go_st rfl rfl ?_
  refine Go_st rfl rfl ?_
  refine Go_st rfl rfl ?_
  refine Go_st rfl rfl ?_
  refine Go_ifF (by decide +kernel) ?_
  refine Go_st rfl rfl ?_
  refine Go_st rfl rfl ?_
  refine Go_st rfl rfl ?_
  refine Go_st rfl rfl ?_
  refine Go_st rfl rfl ?_
  refine Go_st rfl rfl ?_
  refine Go_iald (v := 0) rfl rfl (by decide +kernel) (by decide +kernel) ?_
  refine Go_iast0 rfl rfl (by decide +kernel) ?_
  refine Go_st rfl rfl ?_
  refine Go_st rfl rfl ?_
  refine Go_st rfl rfl ?_
  refine Go_st rfl rfl ?_
  refine Go_st rfl rfl ?_
  refine Go_st rfl rfl ?_
  refine Go_iald (v := 0) rfl rfl (by decide +kernel) (by decide +kernel) ?_
  refine Go_iast0 rfl rfl (by decide +kernel) ?_
  refine Go_st rfl rfl ?_
  refine Go_st rfl rfl ?_
  refine Go_st rfl rfl ?_
  refine Go_st rfl rfl ?_
  refine Go_st rfl rfl ?_
  refine Go_st rfl rfl ?_
  refine Go_zald (v := 0) rfl rfl (by decide +kernel) (by decide +kernel) ?_
  refine Go_zast0 rfl rfl (by decide +kernel) ?_
  refine Go_inc (v := 11) rfl rfl (by decide +kernel) ?_
  refine Go_st rfl rfl ?_
  refine Go_st rfl rfl ?_
  refine Go_st rfl rfl ?_
  refine Go_st rfl rfl ?_
  refine Go_ifF (by decide +kernel) ?_
  refine Go_st rfl rfl ?_
  refine Go_st rfl rfl ?_
  refine Go_st rfl rfl ?_
  refine Go_st rfl rfl ?_
  refine Go_st rfl rfl ?_
  refine Go_st rfl rfl ?_
  refine Go_iald (v := 0) rfl rfl (by decide +kernel) (by decide +kernel) ?_
  refine Go_iast0 rfl rfl (by decide +kernel) ?_
  refine Go_st rfl rfl ?_
  refine Go_st rfl rfl ?_
  refine Go_st rfl rfl ?_
  refine Go_st rfl rfl ?_
  refine Go_st rfl rfl ?_
  refine Go_st rfl rfl ?_
  refine Go_iald (v := 0) rfl rfl (by decide +kernel) (by decide +kernel) ?_
  refine Go_iast0 rfl rfl (by decide +kernel) ?_
  refine Go_st rfl rfl ?_
  refine Go_st rfl rfl ?_
  refine Go_st rfl rfl ?_
  refine Go_st rfl rfl ?_
  refine Go_st rfl rfl ?_
  refine Go_st rfl rfl ?_
  refine Go_zald (v := 0) rfl rfl (by decide +kernel) (by decide +kernel) ?_
  refine Go_zast0 rfl rfl (by decide +kernel) ?_
  refine Go_inc (v := 12) rfl rfl (by decide +kernel) ?_
  refine Go_st rfl rfl ?_
  refine Go_st rfl rfl ?_
  refine Go_st rfl rfl ?_
  refine Go_st rfl rfl ?_
  refine Go_ifF (by decide +kernel) ?_
  refine Go_st rfl rfl ?_
  refine Go_st rfl rfl ?_
  refine Go_st rfl rfl ?_
  refine Go_st rfl rfl ?_
  refine Go_st rfl rfl ?_
  refine Go_st rfl rfl ?_
  refine Go_iald (v := 0) rfl rfl (by decide +kernel) (by decide +kernel) ?_
  refine Go_iast0 rfl rfl (by decide +kernel) ?_
  refine Go_st rfl rfl ?_
  refine Go_st rfl rfl ?_
  refine Go_st rfl rfl ?_
  refine Go_st rfl rfl ?_
  refine Go_st rfl rfl ?_
  refine Go_st rfl rfl ?_
  refine Go_iald (v := 0) rfl rfl (by decide +kernel) (by decide +kernel) ?_
  refine Go_iast0 rfl rfl (by decide +kernel) ?_
  refine Go_st rfl rfl ?_
  refine Go_st rfl rfl ?_
  refine Go_st rfl rfl ?_
  refine Go_st rfl rfl ?_
  refine Go_st rfl rfl ?_
  refine Go_st rfl rfl ?_
  refine Go_zald (v := 0) rfl rfl (by decide +kernel) (by decide +kernel) ?_
  refine Go_zast0 rfl rfl (by decide +kernel) ?_
  refine Go_inc (v := 13) rfl rfl (by decide +kernel) ?_
  refine Go_st rfl rfl ?_
  refine Go_st rfl rfl ?_
  refine Go_st rfl rfl ?_
  refine Go_st rfl rfl ?_
  refine Go_ifF (by decide +kernel) ?_
  refine Go_st rfl rfl ?_
  refine Go_st rfl rfl ?_
  refine Go_st rfl rfl ?_
  refine Go_st rfl rfl ?_
  refine Go_st rfl rfl ?_
  refine Go_st rfl rfl ?_
  refine Go_iald (v := 0) rfl rfl (by decide +kernel) (by decide +kernel) ?_
  refine Go_iast0 rfl rfl (by decide +kernel) ?_
  refine Go_st rfl rfl ?_
  refine Go_st rfl rfl ?_
  refine Go_st rfl rfl ?_
  refine Go_st rfl rfl ?_
  refine Go_st rfl rfl ?_
  refine Go_st rfl rfl ?_
  refine Go_iald (v := 0) rfl rfl (by decide +kernel) (by decide +kernel) ?_
  refine Go_iast0 rfl rfl (by decide +kernel) ?_
  refine Go_st rfl rfl ?_
  refine Go_st rfl rfl ?_
  refine Go_st rfl rfl ?_
  refine Go_st rfl rfl ?_
  refine Go_st rfl rfl ?_
  refine Go_st rfl rfl ?_
  refine Go_zald (v := 0) rfl rfl (by decide +kernel) (by decide +kernel) ?_
  refine Go_zast0 rfl rfl (by decide +kernel) ?_
  refine Go_inc (v := 14) rfl rfl (by decide +kernel) ?_
  refine Go_st rfl rfl ?_
  refine Go_st rfl rfl ?_
  refine Go_st rfl rfl ?_
  refine Go_st rfl rfl ?_
  refine Go_ifF (by decide +kernel) ?_
  refine Go_st rfl rfl ?_
  refine Go_st rfl rfl ?_
  refine Go_st rfl rfl ?_
  refine Go_st rfl rfl ?_
  refine Go_st rfl rfl ?_
  refine Go_st rfl rfl ?_
  refine Go_iald (v := 0) rfl rfl (by decide +kernel) (by decide +kernel) ?_
  refine Go_iast0 rfl rfl (by decide +kernel) ?_
  refine Go_st rfl rfl ?_
  refine Go_st rfl rfl ?_
  refine Go_st rfl rfl ?_
  refine Go_st rfl rfl ?_
  refine Go_st rfl rfl ?_
  refine Go_st rfl rfl ?_
  refine Go_iald (v := 0) rfl rfl (by decide +kernel) (by decide +kernel) ?_
  refine Go_iast0 rfl rfl (by decide +kernel) ?_
  refine Go_st rfl rfl ?_
  refine Go_st rfl rfl ?_
  refine Go_st rfl rfl ?_
  refine Go_st rfl rfl ?_
  refine Go_st rfl rfl ?_
  refine Go_st rfl rfl ?_
  refine Go_zald (v := 0) rfl rfl (by decide +kernel) (by decide +kernel) ?_
  refine Go_zast0 rfl rfl (by decide +kernel) ?_
  refine Go_inc (v := 15) rfl rfl (by decide +kernel) ?_
  refine Go_st rfl rfl ?_
  refine Go_st rfl rfl ?_
  refine Go_st rfl rfl ?_
  refine Go_st rfl rfl ?_
  refine Go_ifF (by decide +kernel) ?_
  refine Go_st rfl rfl ?_
  refine Go_st rfl rfl ?_
  refine Go_st rfl rfl ?_
  refine Go_st rfl rfl ?_
  refine Go_st rfl rfl ?_
  refine Go_st rfl rfl ?_
  refine Go_iald (v := 0) rfl rfl (by decide +kernel) (by decide +kernel) ?_
  refine Go_iast0 rfl rfl (by decide +kernel) ?_
  refine Go_st rfl rfl ?_
  refine Go_st rfl rfl ?_
  refine Go_st rfl rfl ?_
  refine Go_st rfl rfl ?_
  refine Go_st rfl rfl ?_
  refine Go_st rfl rfl ?_
  refine Go_iald (v := 0) rfl rfl (by decide +kernel) (by decide +kernel) ?_
  refine Go_iast0 rfl rfl (by decide +kernel) ?_
  refine Go_st rfl rfl ?_
  refine Go_st rfl rfl ?_
  refine Go_st rfl rfl ?_
  refine Go_st rfl rfl ?_
  refine Go_st rfl rfl ?_
  refine Go_st rfl rfl ?_
  refine Go_zald (v := 0) rfl rfl (by decide +kernel) (by decide +kernel) ?_
  refine Go_zast0 rfl rfl (by decide +kernel) ?_
  refine Go_inc (v := 16) rfl rfl (by decide +kernel) ?_
  refine Go_st rfl rfl ?_
  refine Go_st rfl rfl ?_
  refine Go_st rfl rfl ?_
  refine Go_st rfl rfl ?_
  refine Go_ifF (by decide +kernel) ?_
  refine Go_st rfl rfl ?_
  refine Go_st rfl rfl ?_
  refine Go_st rfl rfl ?_
  refine Go_st rfl rfl ?_
  refine Go_st rfl rfl ?_
  refine Go_st rfl rfl ?_
  refine Go_iald (v := 0) rfl rfl (by decide +kernel) (by decide +kernel) ?_
  refine Go_iast0 rfl rfl (by decide +kernel) ?_
  refine Go_st rfl rfl ?_
  refine Go_st rfl rfl ?_
  refine Go_st rfl rfl ?_
  refine Go_st rfl rfl ?_
  refine Go_st rfl rfl ?_
  refine Go_st rfl rfl ?_
  refine Go_iald (v := 0) rfl rfl (by decide +kernel) (by decide +kernel) ?_
  refine Go_iast0 rfl rfl (by decide +kernel) ?_
  refine Go_st rfl rfl ?_
  refine Go_st rfl rfl ?_
  refine Go_st rfl rfl ?_
  refine Go_st rfl rfl ?_
  refine Go_st rfl rfl ?_
  refine Go_st rfl rfl ?_
  refine Go_zald (v := 0) rfl rfl (by decide +kernel) (by decide +kernel) ?_
  refine Go_zast0 rfl rfl (by decide +kernel) ?_
  refine Go_inc (v := 17) rfl rfl (by decide +kernel) ?_
  refine Go_st rfl rfl ?_
  refine Go_st rfl rfl ?_
  refine Go_st rfl rfl ?_
  refine Go_st rfl rfl ?_
  refine Go_ifF (by decide +kernel) ?_
  refine Go_st rfl rfl ?_
  refine Go_st rfl rfl ?_
  refine Go_st rfl rfl ?_
  refine Go_st rfl rfl ?_
  refine Go_st rfl rfl ?_
  refine Go_st rfl rfl ?_
  refine Go_iald (v := 0) rfl rfl (by decide +kernel) (by decide +kernel) ?_
  refine Go_iast0 rfl rfl (by decide +kernel) ?_
  refine Go_st rfl rfl ?_
  refine Go_st rfl rfl ?_
  refine Go_st rfl rfl ?_
  refine Go_st rfl rfl ?_
  refine Go_st rfl rfl ?_
  refine Go_st rfl rfl ?_
  refine Go_iald (v := 0) rfl rfl (by decide +kernel) (by decide +kernel) ?_
  refine Go_iast0 rfl rfl (by decide +kernel) ?_
  refine Go_st rfl rfl ?_
  refine Go_st rfl rfl ?_
  refine Go_st rfl rfl ?_
  refine Go_st rfl rfl ?_
  refine Go_st rfl rfl ?_
  refine Go_st rfl rfl ?_
  refine Go_zald (v := 0) rfl rfl (by decide +kernel) (by decide +kernel) ?_
  refine Go_zast0 rfl rfl (by decide +kernel) ?_
  refine Go_inc (v := 18) rfl rfl (by decide +kernel) ?_
  refine Go_st rfl rfl ?_
  refine Go_st rfl rfl ?_
  refine Go_st rfl rfl ?_
  refine Go_st rfl rfl ?_
  refine Go_ifF (by decide +kernel) ?_
  refine Go_st rfl rfl ?_
  refine Go_st rfl rfl ?_
  refine Go_st rfl rfl ?_
  refine Go_st rfl rfl ?_
  refine Go_st rfl rfl ?_
  refine Go_st rfl rfl ?_
  refine Go_iald (v := 0) rfl rfl (by decide +kernel) (by decide +kernel) ?_
  refine Go_iast0 rfl rfl (by decide +kernel) ?_
  refine Go_st rfl rfl ?_
  refine Go_st rfl rfl ?_
  refine Go_st rfl rfl ?_
  refine Go_st rfl rfl ?_
  refine Go_st rfl rfl ?_
  refine Go_st rfl rfl ?_
  refine Go_iald (v := 0) rfl rfl (by decide +kernel) (by decide +kernel) ?_
  refine Go_iast0 rfl rfl (by decide +kernel) ?_
  refine Go_st rfl rfl ?_
  refine Go_st rfl rfl ?_
  refine Go_st rfl rfl ?_
  refine Go_st rfl rfl ?_
  refine Go_st rfl rfl ?_
  refine Go_st rfl rfl ?_
  refine Go_zald (v := 0) rfl rfl (by decide +kernel) (by decide +kernel) ?_
  refine Go_zast0 rfl rfl (by decide +kernel) ?_
  refine Go_inc (v := 19) rfl rfl (by decide +kernel) ?_
  refine Go_st rfl rfl ?_
  refine Go_st rfl rfl ?_
  refine Go_st rfl rfl ?_
  refine Go_st rfl rfl ?_
  refine Go_ifF (by decide +kernel) ?_
  refine Go_st rfl rfl ?_
  refine Go_st rfl rfl ?_
  refine Go_st rfl rfl ?_
  refine Go_st rfl rfl ?_
  refine Go_st rfl rfl ?_
  refine Go_st rfl rfl ?_
  refine Go_iald (v := 0) rfl rfl (by decide +kernel) (by decide +kernel) ?_
  refine Go_iast0 rfl rfl (by decide +kernel) ?_
  refine Go_st rfl rfl ?_
  refine Go_st rfl rfl ?_
  refine Go_st rfl rfl ?_
  refine Go_st rfl rfl ?_
  refine Go_st rfl rfl ?_
  refine Go_st rfl rfl ?_
  refine Go_iald (v := 0) rfl rfl (by decide +kernel) (by decide +kernel) ?_
  refine Go_iast0 rfl rfl (by decide +kernel) ?_
  refine Go_st rfl rfl ?_
  refine Go_st rfl rfl ?_
  refine Go_st rfl rfl ?_
  refine Go_st rfl rfl ?_
  refine Go_st rfl rfl ?_
  refine Go_st rfl rfl ?_
  refine Go_zald (v := 0) rfl rfl (by decide +kernel) (by decide +kernel) ?_
  refine Go_zast0 rfl rfl (by decide +kernel) ?_
  refine Go_inc (v := 20) rfl rfl (by decide +kernel) ?_
  refine Go_st rfl rfl ?_
  refine Go_st rfl rfl ?_
  refine Go_st rfl rfl ?_
  refine Go_st rfl rfl ?_
  refine Go_ifT (by decide +kernel) ?_
  exact Go_ret rfl ⟨rfl, rfl⟩
set_option maxRecDepth 20000 in
set_option maxHeartbeats 4000000 in
theorem rm_X9_copyRow_1_0_1 (c : Nat → pm_E) (d : Nat)  : pm_Rt pm_P (d + 1) 132 (hpm c) [.ref 83, .int 1, .int 0, .int 1] (hpm c) none := by
  refine Rt_of aiX9_copyRow (Nat.le_of_ble_eq_true rfl) ?_
  refine Go_st rfl rfl ?_
  refine Go_st rfl rfl ?_
  refine Go_st rfl rfl ?_
  refine Go_st rfl rfl ?_
  refine Go_st rfl rfl ?_
  refine Go_ifF (by decide +kernel) ?_
  refine Go_st rfl rfl ?_
  refine Go_st rfl rfl ?_
  refine Go_st rfl rfl ?_
  refine Go_bin (v := 1) rfl (by decide +kernel) ?_
  refine Go_st rfl rfl ?_
  refine Go_bin (v := 1) rfl (by decide +kernel) ?_
  refine Go_st rfl rfl ?_
  refine Go_st rfl rfl ?_
  refine Go_st rfl rfl ?_
  refine Go_bin (v := 0) rfl (by decide +kernel) ?_
  refine Go_st rfl rfl ?_
  refine Go_bin (v := 0) rfl (by decide +kernel) ?_
  refine Go_iald (v := 0) rfl rfl (by decide +kernel) (by decide +kernel) ?_
  refine Go_iast0 rfl rfl (by decide +kernel) ?_
  refine Go_inc (v := 1) rfl rfl (by decide +kernel) ?_
  refine Go_st rfl rfl ?_
  refine Go_st rfl rfl ?_
  refine Go_st rfl rfl ?_
  refine Go_st rfl rfl ?_
  refine Go_ifT (by decide +kernel) ?_
  exact Go_ret rfl ⟨rfl, rfl⟩
set_option maxRecDepth 20000 in
set_option maxHeartbeats 4000000 in
theorem rm_X9_copyRow_6_0_1 (c : Nat → pm_E) (d : Nat)  : pm_Rt pm_P (d + 1) 132 (hpm c) [.ref 84, .int 6, .int 0, .int 1] (hpm c) none := by
  refine Rt_of aiX9_copyRow (Nat.le_of_ble_eq_true rfl) ?_
  refine Go_st rfl rfl ?_
  refine Go_st rfl rfl ?_
  refine Go_st rfl rfl ?_
  refine Go_st rfl rfl ?_
  refine Go_st rfl rfl ?_
  refine Go_ifF (by decide +kernel) ?_
  refine Go_st rfl rfl ?_
  refine Go_st rfl rfl ?_
  refine Go_st rfl rfl ?_
  refine Go_bin (v := 6) rfl (by decide +kernel) ?_
  refine Go_st rfl rfl ?_
  refine Go_bin (v := 6) rfl (by decide +kernel) ?_
  refine Go_st rfl rfl ?_
  refine Go_st rfl rfl ?_
  refine Go_st rfl rfl ?_
  refine Go_bin (v := 0) rfl (by decide +kernel) ?_
  refine Go_st rfl rfl ?_
  refine Go_bin (v := 0) rfl (by decide +kernel) ?_
  refine Go_iald (v := 0) rfl rfl (by decide +kernel) (by decide +kernel) ?_
  refine Go_iast0 rfl rfl (by decide +kernel) ?_
  refine Go_inc (v := 1) rfl rfl (by decide +kernel) ?_
  refine Go_st rfl rfl ?_
  refine Go_st rfl rfl ?_
  refine Go_st rfl rfl ?_
  refine Go_st rfl rfl ?_
  refine Go_ifF (by decide +kernel) ?_
  refine Go_st rfl rfl ?_
  refine Go_st rfl rfl ?_
  refine Go_st rfl rfl ?_
  refine Go_bin (v := 6) rfl (by decide +kernel) ?_
  refine Go_st rfl rfl ?_
  refine Go_bin (v := 7) rfl (by decide +kernel) ?_
  refine Go_st rfl rfl ?_
  refine Go_st rfl rfl ?_
  refine Go_st rfl rfl ?_
  refine Go_bin (v := 0) rfl (by decide +kernel) ?_
  refine Go_st rfl rfl ?_
  refine Go_bin (v := 1) rfl (by decide +kernel) ?_
  refine Go_iald (v := 0) rfl rfl (by decide +kernel) (by decide +kernel) ?_
  refine Go_iast0 rfl rfl (by decide +kernel) ?_
  refine Go_inc (v := 2) rfl rfl (by decide +kernel) ?_
  refine Go_st rfl rfl ?_
  refine Go_st rfl rfl ?_
  refine Go_st rfl rfl ?_
  refine Go_st rfl rfl ?_
  refine Go_ifF (by decide +kernel) ?_
  refine Go_st rfl rfl ?_
  refine Go_st rfl rfl ?_
  refine Go_st rfl rfl ?_
  refine Go_bin (v := 6) rfl (by decide +kernel) ?_
  refine Go_st rfl rfl ?_
  refine Go_bin (v := 8) rfl (by decide +kernel) ?_
  refine Go_st rfl rfl ?_
  refine Go_st rfl rfl ?_
  refine Go_st rfl rfl ?_
  refine Go_bin (v := 0) rfl (by decide +kernel) ?_
  refine Go_st rfl rfl ?_
  refine Go_bin (v := 2) rfl (by decide +kernel) ?_
  refine Go_iald (v := 0) rfl rfl (by decide +kernel) (by decide +kernel) ?_
  refine Go_iast0 rfl rfl (by decide +kernel) ?_
  refine Go_inc (v := 3) rfl rfl (by decide +kernel) ?_
  refine Go_st rfl rfl ?_
  refine Go_st rfl rfl ?_
  refine Go_st rfl rfl ?_
  refine Go_st rfl rfl ?_
  refine Go_ifF (by decide +kernel) ?_
  refine Go_st rfl rfl ?_
  refine Go_st rfl rfl ?_
  refine Go_st rfl rfl ?_
  refine Go_bin (v := 6) rfl (by decide +kernel) ?_
  refine Go_st rfl rfl ?_
  refine Go_bin (v := 9) rfl (by decide +kernel) ?_
  refine Go_st rfl rfl ?_
  refine Go_st rfl rfl ?_
  refine Go_st rfl rfl ?_
  refine Go_bin (v := 0) rfl (by decide +kernel) ?_
  refine Go_st rfl rfl ?_
  refine Go_bin (v := 3) rfl (by decide +kernel) ?_
  refine Go_iald (v := 0) rfl rfl (by decide +kernel) (by decide +kernel) ?_
  refine Go_iast0 rfl rfl (by decide +kernel) ?_
  refine Go_inc (v := 4) rfl rfl (by decide +kernel) ?_
  refine Go_st rfl rfl ?_
  refine Go_st rfl rfl ?_
  refine Go_st rfl rfl ?_
  refine Go_st rfl rfl ?_
  refine Go_ifF (by decide +kernel) ?_
  refine Go_st rfl rfl ?_
  refine Go_st rfl rfl ?_
  refine Go_st rfl rfl ?_
  refine Go_bin (v := 6) rfl (by decide +kernel) ?_
  refine Go_st rfl rfl ?_
  refine Go_bin (v := 10) rfl (by decide +kernel) ?_
  refine Go_st rfl rfl ?_
  refine Go_st rfl rfl ?_
  refine Go_st rfl rfl ?_
  refine Go_bin (v := 0) rfl (by decide +kernel) ?_
  refine Go_st rfl rfl ?_
  refine Go_bin (v := 4) rfl (by decide +kernel) ?_
  refine Go_iald (v := 0) rfl rfl (by decide +kernel) (by decide +kernel) ?_
  refine Go_iast0 rfl rfl (by decide +kernel) ?_
  refine Go_inc (v := 5) rfl rfl (by decide +kernel) ?_
  refine Go_st rfl rfl ?_
  refine Go_st rfl rfl ?_
  refine Go_st rfl rfl ?_
  refine Go_st rfl rfl ?_
  refine Go_ifF (by decide +kernel) ?_
  refine Go_st rfl rfl ?_
  refine Go_st rfl rfl ?_
  refine Go_st rfl rfl ?_
  refine Go_bin (v := 6) rfl (by decide +kernel) ?_
  refine Go_st rfl rfl ?_
  refine Go_bin (v := 11) rfl (by decide +kernel) ?_
  refine Go_st rfl rfl ?_
  refine Go_st rfl rfl ?_
  refine Go_st rfl rfl ?_
  refine Go_bin (v := 0) rfl (by decide +kernel) ?_
  refine Go_st rfl rfl ?_
  refine Go_bin (v := 5) rfl (by decide +kernel) ?_
  refine Go_iald (v := 0) rfl rfl (by decide +kernel) (by decide +kernel) ?_
  refine Go_iast0 rfl rfl (by decide +kernel) ?_
  refine Go_inc (v := 6) rfl rfl (by decide +kernel) ?_
  refine Go_st rfl rfl ?_
  refine Go_st rfl rfl ?_
  refine Go_st rfl rfl ?_
  refine Go_st rfl rfl ?_
  refine Go_ifT (by decide +kernel) ?_
  exact Go_ret rfl ⟨rfl, rfl⟩
