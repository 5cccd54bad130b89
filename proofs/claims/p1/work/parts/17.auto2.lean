/-! runs on a fresh object (written by gen_auto.py) -/
set_option maxRecDepth 20000 in
set_option maxHeartbeats 4000000 in
theorem rm_X9_label_v (c : Nat → pm_E) (d : Nat) (a1 : Int32) : pm_Rt pm_P (d + 3) 167 (hpm c) [.ref 77, .int a1] (hpm c) (some (.int (-2))) := by
  refine Rt_of aiX9_label (Nat.le_of_ble_eq_true rfl) ?_
  refine Go_st rfl rfl ?_
  refine Go_st rfl rfl ?_
  refine Go_sm rfl rfl (sm_f rfl) ?_
  refine Go_st rfl rfl ?_
  refine Go_st rfl rfl ?_
  refine Go_call rfl (rm_X9_isJoin_v c d _) (chkV rfl rfl rfl rfl rfl rfl) ?_
  refine Go_st rfl rfl ?_
  refine Go_ifT (by decide +kernel) ?_
  refine Go_st rfl rfl ?_
  exact Go_ret rfl ⟨_, rfl, rfl⟩
set_option maxRecDepth 20000 in
set_option maxHeartbeats 4000000 in
theorem rm_X9_merged_v (c : Nat → pm_E) (d : Nat) (a1 : Int32) : pm_Rt pm_P (d + 3) 180 (hpm c) [.ref 77, .int a1] (hpm c) (some (.int (-2))) := by
  refine Rt_of aiX9_merged (Nat.le_of_ble_eq_true rfl) ?_
  refine Go_st rfl rfl ?_
  refine Go_st rfl rfl ?_
  refine Go_sm rfl rfl (sm_f rfl) ?_
  refine Go_st rfl rfl ?_
  refine Go_st rfl rfl ?_
  refine Go_call rfl (rm_X9_isJoin_v c d _) (chkV rfl rfl rfl rfl rfl rfl) ?_
  refine Go_st rfl rfl ?_
  refine Go_ifF (by decide +kernel) ?_
  refine Go_st rfl rfl ?_
  exact Go_ret rfl ⟨_, rfl, rfl⟩
set_option maxRecDepth 20000 in
set_option maxHeartbeats 4000000 in
theorem rx_X8_blocks (d : Nat)  : pm_Rt pm_P (d + 2) 22 (hp0) [.ref 0] (hp0) (some (.int (-2))) := by
  refine Rt_of aiX8_blocks (Nat.le_of_ble_eq_true rfl) ?_
  refine Go_st rfl rfl ?_
  refine Go_call rfl (rx_X8_hasStreet d) (chkV rfl rfl rfl rfl rfl rfl) ?_
  refine Go_st rfl rfl ?_
  refine Go_ifF (by decide +kernel) ?_
  refine Go_st rfl rfl ?_
  exact Go_ret rfl ⟨_, rfl, rfl⟩
set_option maxRecDepth 20000 in
set_option maxHeartbeats 4000000 in
theorem rm_X9_blocks (c : Nat → pm_E) (d : Nat)  : pm_Rt pm_P (d + 2) 122 (hpm c) [.ref 77] (hpm c) (some (.int (-2))) := by
  refine Rt_of aiX9_blocks (Nat.le_of_ble_eq_true rfl) ?_
  refine Go_st rfl rfl ?_
  refine Go_st rfl rfl ?_
  refine Go_sm rfl rfl (sm_f rfl) ?_
  refine Go_st rfl rfl ?_
  refine Go_call rfl (rm_X9_isStreet c d) (chkV rfl rfl rfl rfl rfl rfl) ?_
  refine Go_st rfl rfl ?_
  refine Go_ifF (by decide +kernel) ?_
  refine Go_st rfl rfl ?_
  exact Go_ret rfl ⟨_, rfl, rfl⟩
set_option maxRecDepth 20000 in
set_option maxHeartbeats 4000000 in
theorem rx_X8_hasNumber_v (d : Nat) (a1 : Int32) : pm_Rt pm_P (d + 2) 44 (hp0) [.ref 0, .int a1] (hp0) (some (.int 0)) := by
  refine Rt_of aiX8_hasNumber (Nat.le_of_ble_eq_true rfl) ?_
  refine Go_st rfl rfl ?_
  refine Go_call rfl (rx_X8_hasStreet d) (chkV rfl rfl rfl rfl rfl rfl) ?_
  refine Go_st rfl rfl ?_
  refine Go_ifT (by decide +kernel) ?_
  refine Go_st rfl rfl ?_
  exact Go_ret rfl ⟨_, rfl, by decide, rfl⟩
set_option maxRecDepth 20000 in
set_option maxHeartbeats 4000000 in
theorem rx_X8_block_v (d : Nat) (a1 : Int32) : pm_Rt pm_P (d + 3) 21 (hp0) [.ref 0, .int a1] (hp0) (some (.int (-2))) := by
  refine Rt_of aiX8_block (Nat.le_of_ble_eq_true rfl) ?_
  refine Go_st rfl rfl ?_
  refine Go_st rfl rfl ?_
  refine Go_call rfl (rx_X8_hasNumber_v d _) (chkV rfl rfl rfl rfl rfl rfl) ?_
  refine Go_st rfl rfl ?_
  refine Go_ifF (by decide +kernel) ?_
  refine Go_st rfl rfl ?_
  exact Go_ret rfl ⟨_, rfl, rfl⟩
set_option maxRecDepth 20000 in
set_option maxHeartbeats 4000000 in
theorem rm_X9_isNumber_v (c : Nat → pm_E) (d : Nat) (a1 : Int32) : pm_Rt pm_P (d + 2) 159 (hpm c) [.ref 77, .int a1] (hpm c) (some (.int 0)) := by
  refine Rt_of aiX9_isNumber (Nat.le_of_ble_eq_true rfl) ?_
  refine Go_st rfl rfl ?_
  refine Go_call rfl (rm_X9_isStreet c d) (chkV rfl rfl rfl rfl rfl rfl) ?_
  refine Go_st rfl rfl ?_
  refine Go_ifT (by decide +kernel) ?_
  refine Go_st rfl rfl ?_
  exact Go_ret rfl ⟨_, rfl, by decide, rfl⟩
set_option maxRecDepth 20000 in
set_option maxHeartbeats 4000000 in
theorem rm_X9_block_v (c : Nat → pm_E) (d : Nat) (a1 : Int32) : pm_Rt pm_P (d + 3) 121 (hpm c) [.ref 77, .int a1] (hpm c) (some (.int (-2))) := by
  refine Rt_of aiX9_block (Nat.le_of_ble_eq_true rfl) ?_
  refine Go_st rfl rfl ?_
  refine Go_st rfl rfl ?_
  refine Go_sm rfl rfl (sm_f rfl) ?_
  refine Go_st rfl rfl ?_
  refine Go_st rfl rfl ?_
  refine Go_call rfl (rm_X9_isNumber_v c d _) (chkV rfl rfl rfl rfl rfl rfl) ?_
  refine Go_st rfl rfl ?_
  refine Go_ifF (by decide +kernel) ?_
  refine Go_st rfl rfl ?_
  exact Go_ret rfl ⟨_, rfl, rfl⟩
set_option maxRecDepth 20000 in
set_option maxHeartbeats 4000000 in
theorem rx_X8_next (d : Nat)  : pm_Rt pm_P (d + 2) 72 (hp0) [.ref 0] (hp0) (some (.int (-2))) := by
  refine Rt_of aiX8_next (Nat.le_of_ble_eq_true rfl) ?_
  refine Go_st rfl rfl ?_
  refine Go_call rfl (rx_X8_hasStreet d) (chkV rfl rfl rfl rfl rfl rfl) ?_
  refine Go_st rfl rfl ?_
  refine Go_ifF (by decide +kernel) ?_
  refine Go_st rfl rfl ?_
  exact Go_ret rfl ⟨_, rfl, rfl⟩
set_option maxRecDepth 20000 in
set_option maxHeartbeats 4000000 in
theorem rm_X9_next (c : Nat → pm_E) (d : Nat)  : pm_Rt pm_P (d + 2) 182 (hpm c) [.ref 77] (hpm c) (some (.int (-2))) := by
  refine Rt_of aiX9_next (Nat.le_of_ble_eq_true rfl) ?_
  refine Go_st rfl rfl ?_
  refine Go_st rfl rfl ?_
  refine Go_sm rfl rfl (sm_f rfl) ?_
  refine Go_st rfl rfl ?_
  refine Go_call rfl (rm_X9_isStreet c d) (chkV rfl rfl rfl rfl rfl rfl) ?_
  refine Go_st rfl rfl ?_
  refine Go_ifF (by decide +kernel) ?_
  refine Go_st rfl rfl ?_
  exact Go_ret rfl ⟨_, rfl, rfl⟩
set_option maxRecDepth 20000 in
set_option maxHeartbeats 4000000 in
theorem rx_X8_may_v_v (d : Nat) (a1 : Int32) (a2 : Int32) : pm_Rt pm_P (d + 3) 67 (hp0) [.ref 0, .int a1, .int a2] (hp0) (some (.int (-2))) := by
  refine Rt_of aiX8_may (Nat.le_of_ble_eq_true rfl) ?_
  refine Go_st rfl rfl ?_
  refine Go_st rfl rfl ?_
  refine Go_call rfl (rx_X8_hasNumber_v d _) (chkV rfl rfl rfl rfl rfl rfl) ?_
  refine Go_st rfl rfl ?_
  refine Go_ifT (by decide +kernel) ?_
  refine Go_st rfl rfl ?_
  exact Go_ret rfl ⟨_, rfl, rfl⟩
set_option maxRecDepth 20000 in
set_option maxHeartbeats 4000000 in
theorem rm_X9_may_v_v (c : Nat → pm_E) (d : Nat) (a1 : Int32) (a2 : Int32) : pm_Rt pm_P (d + 3) 177 (hpm c) [.ref 77, .int a1, .int a2] (hpm c) (some (.int (-2))) := by
  refine Rt_of aiX9_may (Nat.le_of_ble_eq_true rfl) ?_
  refine Go_st rfl rfl ?_
  refine Go_st rfl rfl ?_
  refine Go_sm rfl rfl (sm_f rfl) ?_
  refine Go_st rfl rfl ?_
  refine Go_st rfl rfl ?_
  refine Go_call rfl (rm_X9_isNumber_v c d _) (chkV rfl rfl rfl rfl rfl rfl) ?_
  refine Go_st rfl rfl ?_
  refine Go_ifT (by decide +kernel) ?_
  refine Go_st rfl rfl ?_
  exact Go_ret rfl ⟨_, rfl, rfl⟩
set_option maxRecDepth 20000 in
set_option maxHeartbeats 4000000 in
theorem rx_X8_labels_v_v (d : Nat) (a1 : Int32) (a2 : Int32) : pm_Rt pm_P (d + 3) 58 (hp0) [.ref 0, .int a1, .int a2] (hp0) (some (.int (-2))) := by
  refine Rt_of aiX8_labels (Nat.le_of_ble_eq_true rfl) ?_
  refine Go_st rfl rfl ?_
  refine Go_st rfl rfl ?_
  refine Go_call rfl (rx_X8_hasNumber_v d _) (chkV rfl rfl rfl rfl rfl rfl) ?_
  refine Go_st rfl rfl ?_
  refine Go_ifT (by decide +kernel) ?_
  refine Go_st rfl rfl ?_
  exact Go_ret rfl ⟨_, rfl, rfl⟩
set_option maxRecDepth 20000 in
set_option maxHeartbeats 4000000 in
theorem rm_X9_labels_v_v (c : Nat → pm_E) (d : Nat) (a1 : Int32) (a2 : Int32) : pm_Rt pm_P (d + 3) 168 (hpm c) [.ref 77, .int a1, .int a2] (hpm c) (some (.int (-2))) := by
  refine Rt_of aiX9_labels (Nat.le_of_ble_eq_true rfl) ?_
  refine Go_st rfl rfl ?_
  refine Go_st rfl rfl ?_
  refine Go_sm rfl rfl (sm_f rfl) ?_
  refine Go_st rfl rfl ?_
  refine Go_st rfl rfl ?_
  refine Go_call rfl (rm_X9_isNumber_v c d _) (chkV rfl rfl rfl rfl rfl rfl) ?_
  refine Go_st rfl rfl ?_
  refine Go_ifT (by decide +kernel) ?_
  refine Go_st rfl rfl ?_
  exact Go_ret rfl ⟨_, rfl, rfl⟩
set_option maxRecDepth 20000 in
set_option maxHeartbeats 4000000 in
theorem rx_X8_chain (d : Nat)  : pm_Rt pm_P (d + 2) 27 (hp0) [.ref 0] (hp0) (some (.int (-2))) := by
  refine Rt_of aiX8_chain (Nat.le_of_ble_eq_true rfl) ?_
  refine Go_st rfl rfl ?_
  refine Go_call rfl (rx_X8_hasStreet d) (chkV rfl rfl rfl rfl rfl rfl) ?_
  refine Go_st rfl rfl ?_
  refine Go_ifF (by decide +kernel) ?_
  refine Go_st rfl rfl ?_
  exact Go_ret rfl ⟨_, rfl, rfl⟩
set_option maxRecDepth 20000 in
set_option maxHeartbeats 4000000 in
theorem rm_X9_chain (c : Nat → pm_E) (d : Nat)  : pm_Rt pm_P (d + 2) 128 (hpm c) [.ref 77] (hpm c) (some (.int (-2))) := by
  refine Rt_of aiX9_chain (Nat.le_of_ble_eq_true rfl) ?_
  refine Go_st rfl rfl ?_
  refine Go_st rfl rfl ?_
  refine Go_sm rfl rfl (sm_f rfl) ?_
  refine Go_st rfl rfl ?_
  refine Go_call rfl (rm_X9_isStreet c d) (chkV rfl rfl rfl rfl rfl rfl) ?_
  refine Go_st rfl rfl ?_
  refine Go_ifF (by decide +kernel) ?_
  refine Go_st rfl rfl ?_
  exact Go_ret rfl ⟨_, rfl, rfl⟩
set_option maxRecDepth 20000 in
set_option maxHeartbeats 4000000 in
theorem rx_X8_region_v (d : Nat) (a1 : Int32) : pm_Rt pm_P (d + 2) 81 (hp0) [.ref 0, .int a1] (hp0) (some (.int (-2))) := by
  refine Rt_of aiX8_region (Nat.le_of_ble_eq_true rfl) ?_
  refine Go_st rfl rfl ?_
  refine Go_st rfl rfl ?_
  refine Go_call rfl (rx_X8_hasCar d _) (chkV rfl rfl rfl rfl rfl rfl) ?_
  refine Go_st rfl rfl ?_
  refine Go_ifF (by decide +kernel) ?_
  refine Go_st rfl rfl ?_
  exact Go_ret rfl ⟨_, rfl, rfl⟩
set_option maxRecDepth 20000 in
set_option maxHeartbeats 4000000 in
theorem rm_X9_region_v (c : Nat → pm_E) (d : Nat) (a1 : Int32) : pm_Rt pm_P (d + 3) 191 (hpm c) [.ref 77, .int a1] (hpm c) (some (.int (-2))) := by
  refine Rt_of aiX9_region (Nat.le_of_ble_eq_true rfl) ?_
  refine Go_st rfl rfl ?_
  refine Go_st rfl rfl ?_
  refine Go_sm rfl rfl (sm_f rfl) ?_
  refine Go_st rfl rfl ?_
  refine Go_st rfl rfl ?_
  refine Go_st rfl rfl ?_
  refine Go_call rfl (rm_X9_isCar_v c d _) (chkV rfl rfl rfl rfl rfl rfl) ?_
  refine Go_st rfl rfl ?_
  refine Go_ifF (by decide +kernel) ?_
  refine Go_st rfl rfl ?_
  exact Go_ret rfl ⟨_, rfl, rfl⟩
set_option maxRecDepth 20000 in
set_option maxHeartbeats 4000000 in
theorem rx_X8_hasPair_v_v (d : Nat) (a1 : Int32) (a2 : Int32) : pm_Rt pm_P (d + 2) 45 (hp0) [.ref 0, .int a1, .int a2] (hp0) (some (.int 0)) := by
  refine Rt_of aiX8_hasPair (Nat.le_of_ble_eq_true rfl) ?_
  refine Go_st rfl rfl ?_
  refine Go_st rfl rfl ?_
  refine Go_call rfl (rx_X8_hasCar d _) (chkV rfl rfl rfl rfl rfl rfl) ?_
  refine Go_st rfl rfl ?_
  refine Go_ifT (by decide +kernel) ?_
  refine Go_st rfl rfl ?_
  exact Go_ret rfl ⟨_, rfl, by decide, rfl⟩
set_option maxRecDepth 20000 in
set_option maxHeartbeats 4000000 in
theorem rx_X8_across_v_v (d : Nat) (a1 : Int32) (a2 : Int32) : pm_Rt pm_P (d + 3) 15 (hp0) [.ref 0, .int a1, .int a2] (hp0) (some (.int (-2))) := by
  refine Rt_of aiX8_across (Nat.le_of_ble_eq_true rfl) ?_
  refine Go_st rfl rfl ?_
  refine Go_st rfl rfl ?_
  refine Go_st rfl rfl ?_
  refine Go_call rfl (rx_X8_hasPair_v_v d _ _) (chkV rfl rfl rfl rfl rfl rfl) ?_
  refine Go_st rfl rfl ?_
  refine Go_ifF (by decide +kernel) ?_
  refine Go_st rfl rfl ?_
  exact Go_ret rfl ⟨_, rfl, rfl⟩
set_option maxRecDepth 20000 in
set_option maxHeartbeats 4000000 in
theorem rm_X9_areTwo_v_v (c : Nat → pm_E) (d : Nat) (a1 : Int32) (a2 : Int32) : pm_Rt pm_P (d + 3) 115 (hpm c) [.ref 77, .int a1, .int a2] (hpm c) (some (.int 0)) := by
  refine Rt_of aiX9_areTwo (Nat.le_of_ble_eq_true rfl) ?_
  refine Go_st rfl rfl ?_
  refine Go_st rfl rfl ?_
  refine Go_st rfl rfl ?_
  refine Go_call rfl (rm_X9_isCar_v c d _) (chkV rfl rfl rfl rfl rfl rfl) ?_
  refine Go_st rfl rfl ?_
  refine Go_ifT (by decide +kernel) ?_
  refine Go_st rfl rfl ?_
  exact Go_ret rfl ⟨_, rfl, by decide, rfl⟩
set_option maxRecDepth 20000 in
set_option maxHeartbeats 4000000 in
theorem rm_X9_across_v_v (c : Nat → pm_E) (d : Nat) (a1 : Int32) (a2 : Int32) : pm_Rt pm_P (d + 4) 113 (hpm c) [.ref 77, .int a1, .int a2] (hpm c) (some (.int (-2))) := by
  refine Rt_of aiX9_across (Nat.le_of_ble_eq_true rfl) ?_
  refine Go_st rfl rfl ?_
  refine Go_st rfl rfl ?_
  refine Go_sm rfl rfl (sm_f rfl) ?_
  refine Go_st rfl rfl ?_
  refine Go_st rfl rfl ?_
  refine Go_st rfl rfl ?_
  refine Go_call rfl (rm_X9_areTwo_v_v c d _ _) (chkV rfl rfl rfl rfl rfl rfl) ?_
  refine Go_st rfl rfl ?_
  refine Go_ifF (by decide +kernel) ?_
  refine Go_st rfl rfl ?_
  exact Go_ret rfl ⟨_, rfl, rfl⟩
set_option maxRecDepth 20000 in
set_option maxHeartbeats 4000000 in
theorem rx_X8_fences (d : Nat)  : pm_Rt pm_P (d + 2) 38 (hp0) [.ref 0] (hp0) (some (.int (-2))) := by
  refine Rt_of aiX8_fences (Nat.le_of_ble_eq_true rfl) ?_
  refine Go_st rfl rfl ?_
  refine Go_call rfl (rx_X8_hasStreet d) (chkV rfl rfl rfl rfl rfl rfl) ?_
  refine Go_st rfl rfl ?_
  refine Go_ifF (by decide +kernel) ?_
  refine Go_st rfl rfl ?_
  exact Go_ret rfl ⟨_, rfl, rfl⟩
set_option maxRecDepth 20000 in
set_option maxHeartbeats 4000000 in
theorem rm_X9_fences (c : Nat → pm_E) (d : Nat)  : pm_Rt pm_P (d + 2) 142 (hpm c) [.ref 77] (hpm c) (some (.int (-2))) := by
  refine Rt_of aiX9_fences (Nat.le_of_ble_eq_true rfl) ?_
  refine Go_st rfl rfl ?_
  refine Go_st rfl rfl ?_
  refine Go_sm rfl rfl (sm_f rfl) ?_
  refine Go_st rfl rfl ?_
  refine Go_call rfl (rm_X9_isStreet c d) (chkV rfl rfl rfl rfl rfl rfl) ?_
  refine Go_st rfl rfl ?_
  refine Go_ifF (by decide +kernel) ?_
  refine Go_st rfl rfl ?_
  exact Go_ret rfl ⟨_, rfl, rfl⟩
set_option maxRecDepth 20000 in
set_option maxHeartbeats 4000000 in
theorem rx_X8_far (d : Nat)  : pm_Rt pm_P (d + 2) 35 (hp0) [.ref 0] (hp0) (some (.int (-2))) := by
  refine Rt_of aiX8_far (Nat.le_of_ble_eq_true rfl) ?_
  refine Go_st rfl rfl ?_
  refine Go_call rfl (rx_X8_hasStreet d) (chkV rfl rfl rfl rfl rfl rfl) ?_
  refine Go_st rfl rfl ?_
  refine Go_ifF (by decide +kernel) ?_
  refine Go_st rfl rfl ?_
  exact Go_ret rfl ⟨_, rfl, rfl⟩
set_option maxRecDepth 20000 in
set_option maxHeartbeats 4000000 in
theorem rm_X9_far (c : Nat → pm_E) (d : Nat)  : pm_Rt pm_P (d + 2) 139 (hpm c) [.ref 77] (hpm c) (some (.int (-2))) := by
  refine Rt_of aiX9_far (Nat.le_of_ble_eq_true rfl) ?_
  refine Go_st rfl rfl ?_
  refine Go_st rfl rfl ?_
  refine Go_sm rfl rfl (sm_f rfl) ?_
  refine Go_st rfl rfl ?_
  refine Go_call rfl (rm_X9_isStreet c d) (chkV rfl rfl rfl rfl rfl rfl) ?_
  refine Go_st rfl rfl ?_
  refine Go_ifF (by decide +kernel) ?_
  refine Go_st rfl rfl ?_
  exact Go_ret rfl ⟨_, rfl, rfl⟩
set_option maxRecDepth 20000 in
set_option maxHeartbeats 4000000 in
theorem rx_X8_astride (d : Nat)  : pm_Rt pm_P (d + 2) 18 (hp0) [.ref 0] (hp0) (some (.int (-2))) := by
  refine Rt_of aiX8_astride (Nat.le_of_ble_eq_true rfl) ?_
  refine Go_st rfl rfl ?_
  refine Go_call rfl (rx_X8_hasStreet d) (chkV rfl rfl rfl rfl rfl rfl) ?_
  refine Go_st rfl rfl ?_
  refine Go_ifF (by decide +kernel) ?_
  refine Go_st rfl rfl ?_
  exact Go_ret rfl ⟨_, rfl, rfl⟩
set_option maxRecDepth 20000 in
set_option maxHeartbeats 4000000 in
theorem rm_X9_astride (c : Nat → pm_E) (d : Nat)  : pm_Rt pm_P (d + 2) 117 (hpm c) [.ref 77] (hpm c) (some (.int (-2))) := by
  refine Rt_of aiX9_astride (Nat.le_of_ble_eq_true rfl) ?_
  refine Go_st rfl rfl ?_
  refine Go_st rfl rfl ?_
  refine Go_sm rfl rfl (sm_f rfl) ?_
  refine Go_st rfl rfl ?_
  refine Go_call rfl (rm_X9_isStreet c d) (chkV rfl rfl rfl rfl rfl rfl) ?_
  refine Go_st rfl rfl ?_
  refine Go_ifF (by decide +kernel) ?_
  refine Go_st rfl rfl ?_
  exact Go_ret rfl ⟨_, rfl, rfl⟩
set_option maxRecDepth 20000 in
set_option maxHeartbeats 4000000 in
theorem rx_X8_mend (d : Nat)  : pm_Rt pm_P (d + 2) 69 (hp0) [.ref 0] (hp0) (some (.int (-2))) := by
  refine Rt_of aiX8_mend (Nat.le_of_ble_eq_true rfl) ?_
  refine Go_st rfl rfl ?_
  refine Go_call rfl (rx_X8_hasStreet d) (chkV rfl rfl rfl rfl rfl rfl) ?_
  refine Go_st rfl rfl ?_
  refine Go_ifF (by decide +kernel) ?_
  refine Go_st rfl rfl ?_
  exact Go_ret rfl ⟨_, rfl, rfl⟩
set_option maxRecDepth 20000 in
set_option maxHeartbeats 4000000 in
theorem rm_X9_mend (c : Nat → pm_E) (d : Nat)  : pm_Rt pm_P (d + 2) 179 (hpm c) [.ref 77] (hpm c) (some (.int (-2))) := by
  refine Rt_of aiX9_mend (Nat.le_of_ble_eq_true rfl) ?_
  refine Go_st rfl rfl ?_
  refine Go_st rfl rfl ?_
  refine Go_sm rfl rfl (sm_f rfl) ?_
  refine Go_st rfl rfl ?_
  refine Go_call rfl (rm_X9_isStreet c d) (chkV rfl rfl rfl rfl rfl rfl) ?_
  refine Go_st rfl rfl ?_
  refine Go_ifF (by decide +kernel) ?_
  refine Go_st rfl rfl ?_
  exact Go_ret rfl ⟨_, rfl, rfl⟩
set_option maxRecDepth 20000 in
set_option maxHeartbeats 4000000 in
theorem rx_X8_swap (d : Nat)  : pm_Rt pm_P (d + 2) 99 (hp0) [.ref 0] (hp0) (some (.int (-2))) := by
  refine Rt_of aiX8_swap (Nat.le_of_ble_eq_true rfl) ?_
  refine Go_st rfl rfl ?_
  refine Go_call rfl (rx_X8_hasStreet d) (chkV rfl rfl rfl rfl rfl rfl) ?_
  refine Go_st rfl rfl ?_
  refine Go_ifF (by decide +kernel) ?_
  refine Go_st rfl rfl ?_
  exact Go_ret rfl ⟨_, rfl, rfl⟩
set_option maxRecDepth 20000 in
set_option maxHeartbeats 4000000 in
theorem rm_X9_swap (c : Nat → pm_E) (d : Nat)  : pm_Rt pm_P (d + 2) 205 (hpm c) [.ref 77] (hpm c) (some (.int (-2))) := by
  refine Rt_of aiX9_swap (Nat.le_of_ble_eq_true rfl) ?_
  refine Go_st rfl rfl ?_
  refine Go_st rfl rfl ?_
  refine Go_sm rfl rfl (sm_f rfl) ?_
  refine Go_st rfl rfl ?_
  refine Go_call rfl (rm_X9_isStreet c d) (chkV rfl rfl rfl rfl rfl rfl) ?_
  refine Go_st rfl rfl ?_
  refine Go_ifF (by decide +kernel) ?_
  refine Go_st rfl rfl ?_
  exact Go_ret rfl ⟨_, rfl, rfl⟩
set_option maxRecDepth 20000 in
set_option maxHeartbeats 4000000 in
theorem rx_X8_blame (d : Nat)  : pm_Rt pm_P (d + 2) 20 (hp0) [.ref 0] (hp0) (some (.int (-2))) := by
  refine Rt_of aiX8_blame (Nat.le_of_ble_eq_true rfl) ?_
  refine Go_st rfl rfl ?_
  refine Go_call rfl (rx_X8_hasStreet d) (chkV rfl rfl rfl rfl rfl rfl) ?_
  refine Go_st rfl rfl ?_
  refine Go_ifF (by decide +kernel) ?_
  refine Go_st rfl rfl ?_
  exact Go_ret rfl ⟨_, rfl, rfl⟩
set_option maxRecDepth 20000 in
set_option maxHeartbeats 4000000 in
theorem rm_X9_blame (c : Nat → pm_E) (d : Nat)  : pm_Rt pm_P (d + 2) 120 (hpm c) [.ref 77] (hpm c) (some (.int (-2))) := by
  refine Rt_of aiX9_blame (Nat.le_of_ble_eq_true rfl) ?_
  refine Go_st rfl rfl ?_
  refine Go_st rfl rfl ?_
  refine Go_sm rfl rfl (sm_f rfl) ?_
  refine Go_st rfl rfl ?_
  refine Go_call rfl (rm_X9_isStreet c d) (chkV rfl rfl rfl rfl rfl rfl) ?_
  refine Go_st rfl rfl ?_
  refine Go_ifF (by decide +kernel) ?_
  refine Go_st rfl rfl ?_
  exact Go_ret rfl ⟨_, rfl, rfl⟩
set_option maxRecDepth 20000 in
set_option maxHeartbeats 4000000 in
theorem rx_X8_sightRefusal_v_0 (d : Nat) (a1 : Int32) : pm_Rt pm_P (d + 2) 93 (hp0) [.ref 0, .int a1, .int 0] (hp0) (some (.int (-2))) := by
  refine Rt_of aiX8_sightRefusal (Nat.le_of_ble_eq_true rfl) ?_
  refine Go_st rfl rfl ?_
  obtain ⟨rr, hrr, hcc⟩ := rx_isSlot (hp0) d a1
  rcases hrr with rfl | rfl
  · refine Go_call rfl hcc (chkS rfl rfl rfl rfl) ?_
    refine Go_st rfl rfl ?_
    refine Go_ifT (by decide +kernel) ?_
    refine Go_st rfl rfl ?_
    exact Go_ret rfl ⟨_, rfl, rfl⟩
  · refine Go_call rfl hcc (chkS rfl rfl rfl rfl) ?_
    refine Go_st rfl rfl ?_
    refine Go_ifF (by decide +kernel) ?_
    refine Go_st rfl rfl ?_
    refine Go_st rfl rfl ?_
    refine Go_ifF (by decide +kernel) ?_
    refine Go_st rfl rfl ?_
    exact Go_ret rfl ⟨_, rfl, rfl⟩
set_option maxRecDepth 20000 in
set_option maxHeartbeats 4000000 in
theorem rx_X8_fits_v_v (d : Nat) (a1 : Int32) (a2 : Int32) : pm_Rt pm_P (d + 3) 39 (hp0) [.ref 0, .int a1, .int a2] (hp0) (some (.int (-2))) := by
  refine Rt_of aiX8_fits (Nat.le_of_ble_eq_true rfl) ?_
  refine Go_st rfl rfl ?_
  refine Go_st rfl rfl ?_
  refine Go_st rfl rfl ?_
  refine Go_st rfl rfl ?_
  refine Go_call rfl (rx_X8_hasCar (d + 1) _) (chkV rfl rfl rfl rfl rfl rfl) ?_
  refine Go_call rfl (rx_X8_sightRefusal_v_0 d _) (chkV rfl rfl rfl rfl rfl rfl) ?_
  refine Go_st rfl rfl ?_
  refine Go_st rfl rfl ?_
  refine Go_st rfl rfl ?_
  refine Go_ifF (by decide +kernel) ?_
  refine Go_st rfl rfl ?_
  refine Go_st rfl rfl ?_
  exact Go_ret rfl ⟨_, rfl, rfl⟩
set_option maxRecDepth 20000 in
set_option maxHeartbeats 4000000 in
theorem rm_X9_whyNot_v_0 (c : Nat → pm_E) (d : Nat) (a1 : Int32) : pm_Rt pm_P (d + 3) 214 (hpm c) [.ref 77, .int a1, .int 0] (hpm c) (some (.int (-2))) := by
  refine Rt_of aiX9_whyNot (Nat.le_of_ble_eq_true rfl) ?_
  refine Go_st rfl rfl ?_
  obtain ⟨rr, hrr, hcc⟩ := rm_isSlot (hpm c) d a1
  rcases hrr with rfl | rfl
  · refine Go_call rfl hcc (chkS rfl rfl rfl rfl) ?_
    refine Go_st rfl rfl ?_
    refine Go_ifT (by decide +kernel) ?_
    refine Go_st rfl rfl ?_
    exact Go_ret rfl ⟨_, rfl, rfl⟩
  · refine Go_call rfl hcc (chkS rfl rfl rfl rfl) ?_
    refine Go_st rfl rfl ?_
    refine Go_ifF (by decide +kernel) ?_
    refine Go_st rfl rfl ?_
    refine Go_call rfl (rm_X9_isStreet c (d + 1)) (chkV rfl rfl rfl rfl rfl rfl) ?_
    refine Go_st rfl rfl ?_
    refine Go_ifT (by decide +kernel) ?_
    refine Go_st rfl rfl ?_
    exact Go_ret rfl ⟨_, rfl, rfl⟩
set_option maxRecDepth 20000 in
set_option maxHeartbeats 4000000 in
theorem rm_X9_fits_v_v (c : Nat → pm_E) (d : Nat) (a1 : Int32) (a2 : Int32) : pm_Rt pm_P (d + 4) 143 (hpm c) [.ref 77, .int a1, .int a2] (hpm c) (some (.int (-2))) := by
  refine Rt_of aiX9_fits (Nat.le_of_ble_eq_true rfl) ?_
  refine Go_st rfl rfl ?_
  refine Go_st rfl rfl ?_
  refine Go_sm rfl rfl (sm_f rfl) ?_
  refine Go_st rfl rfl ?_
  refine Go_st rfl rfl ?_
  refine Go_st rfl rfl ?_
  refine Go_st rfl rfl ?_
  refine Go_st rfl rfl ?_
  refine Go_call rfl (rm_X9_isCar_v c (d + 1) _) (chkV rfl rfl rfl rfl rfl rfl) ?_
  refine Go_call rfl (rm_X9_whyNot_v_0 c d _) (chkV rfl rfl rfl rfl rfl rfl) ?_
  refine Go_st rfl rfl ?_
  refine Go_st rfl rfl ?_
  refine Go_st rfl rfl ?_
  refine Go_ifF (by decide +kernel) ?_
  refine Go_st rfl rfl ?_
  exact Go_ret rfl ⟨_, rfl, rfl⟩
set_option maxRecDepth 20000 in
set_option maxHeartbeats 4000000 in
theorem rx_X8_ask_v_v (d : Nat) (a1 : Int32) (a2 : Int32) : pm_Rt pm_P (d + 3) 17 (hp0) [.ref 0, .int a1, .int a2] (hp0) (some (.int (-2))) := by
  refine Rt_of aiX8_ask (Nat.le_of_ble_eq_true rfl) ?_
  refine Go_st rfl rfl ?_
  refine Go_st rfl rfl ?_
  refine Go_st rfl rfl ?_
  refine Go_st rfl rfl ?_
  refine Go_call rfl (rx_X8_hasCar (d + 1) _) (chkV rfl rfl rfl rfl rfl rfl) ?_
  refine Go_call rfl (rx_X8_sightRefusal_v_0 d _) (chkV rfl rfl rfl rfl rfl rfl) ?_
  refine Go_st rfl rfl ?_
  refine Go_st rfl rfl ?_
  refine Go_st rfl rfl ?_
  refine Go_ifF (by decide +kernel) ?_
  refine Go_st rfl rfl ?_
  exact Go_ret rfl ⟨_, rfl, rfl⟩
set_option maxRecDepth 20000 in
set_option maxHeartbeats 4000000 in
theorem rm_X9_ask_v_v (c : Nat → pm_E) (d : Nat) (a1 : Int32) (a2 : Int32) : pm_Rt pm_P (d + 4) 116 (hpm c) [.ref 77, .int a1, .int a2] (hpm c) (some (.int (-2))) := by
  refine Rt_of aiX9_ask (Nat.le_of_ble_eq_true rfl) ?_
  refine Go_st rfl rfl ?_
  refine Go_st rfl rfl ?_
  refine Go_sm rfl rfl (sm_f rfl) ?_
  refine Go_st rfl rfl ?_
  refine Go_st rfl rfl ?_
  refine Go_st rfl rfl ?_
  refine Go_st rfl rfl ?_
  refine Go_st rfl rfl ?_
  refine Go_call rfl (rm_X9_isCar_v c (d + 1) _) (chkV rfl rfl rfl rfl rfl rfl) ?_
  refine Go_call rfl (rm_X9_whyNot_v_0 c d _) (chkV rfl rfl rfl rfl rfl rfl) ?_
  refine Go_st rfl rfl ?_
  refine Go_st rfl rfl ?_
  refine Go_st rfl rfl ?_
  refine Go_ifF (by decide +kernel) ?_
  refine Go_st rfl rfl ?_
  exact Go_ret rfl ⟨_, rfl, rfl⟩
set_option maxRecDepth 20000 in
set_option maxHeartbeats 4000000 in
theorem rx_X8_remain_v_v (d : Nat) (a1 : Int32) (a2 : Int32) : pm_Rt pm_P (d + 3) 82 (hp0) [.ref 0, .int a1, .int a2] (hp0) (some (.int (-2))) := by
  refine Rt_of aiX8_remain (Nat.le_of_ble_eq_true rfl) ?_
  refine Go_st rfl rfl ?_
  refine Go_st rfl rfl ?_
  refine Go_st rfl rfl ?_
  refine Go_st rfl rfl ?_
  refine Go_call rfl (rx_X8_hasCar (d + 1) _) (chkV rfl rfl rfl rfl rfl rfl) ?_
  refine Go_call rfl (rx_X8_sightRefusal_v_0 d _) (chkV rfl rfl rfl rfl rfl rfl) ?_
  refine Go_st rfl rfl ?_
  refine Go_st rfl rfl ?_
  refine Go_st rfl rfl ?_
  refine Go_ifF (by decide +kernel) ?_
  refine Go_st rfl rfl ?_
  exact Go_ret rfl ⟨_, rfl, rfl⟩
set_option maxRecDepth 20000 in
set_option maxHeartbeats 4000000 in
theorem rm_X9_remain_v_v (c : Nat → pm_E) (d : Nat) (a1 : Int32) (a2 : Int32) : pm_Rt pm_P (d + 4) 192 (hpm c) [.ref 77, .int a1, .int a2] (hpm c) (some (.int (-2))) := by
  refine Rt_of aiX9_remain (Nat.le_of_ble_eq_true rfl) ?_
  refine Go_st rfl rfl ?_
  refine Go_st rfl rfl ?_
  refine Go_sm rfl rfl (sm_f rfl) ?_
  refine Go_st rfl rfl ?_
  refine Go_st rfl rfl ?_
  refine Go_st rfl rfl ?_
  refine Go_st rfl rfl ?_
  refine Go_st rfl rfl ?_
  refine Go_call rfl (rm_X9_isCar_v c (d + 1) _) (chkV rfl rfl rfl rfl rfl rfl) ?_
  refine Go_call rfl (rm_X9_whyNot_v_0 c d _) (chkV rfl rfl rfl rfl rfl rfl) ?_
  refine Go_st rfl rfl ?_
  refine Go_st rfl rfl ?_
  refine Go_st rfl rfl ?_
  refine Go_ifF (by decide +kernel) ?_
  refine Go_st rfl rfl ?_
  exact Go_ret rfl ⟨_, rfl, rfl⟩
set_option maxRecDepth 20000 in
set_option maxHeartbeats 4000000 in
theorem rx_X8_laws_v (d : Nat) (a1 : Int32) : pm_Rt pm_P (d + 3) 61 (hp0) [.ref 0, .int a1] (hp0) (some (.int (-2))) := by
  refine Rt_of aiX8_laws (Nat.le_of_ble_eq_true rfl) ?_
  refine Go_st rfl rfl ?_
  refine Go_st rfl rfl ?_
  refine Go_st rfl rfl ?_
  refine Go_call rfl (rx_X8_hasStreet (d + 1)) (chkV rfl rfl rfl rfl rfl rfl) ?_
  refine Go_call rfl (rx_X8_sightRefusal_v_0 d _) (chkV rfl rfl rfl rfl rfl rfl) ?_
  refine Go_st rfl rfl ?_
  refine Go_st rfl rfl ?_
  refine Go_st rfl rfl ?_
  refine Go_ifF (by decide +kernel) ?_
  refine Go_st rfl rfl ?_
  exact Go_ret rfl ⟨_, rfl, rfl⟩
set_option maxRecDepth 20000 in
set_option maxHeartbeats 4000000 in
theorem rm_X9_whyNot_v_1 (c : Nat → pm_E) (d : Nat) (a1 : Int32) : pm_Rt pm_P (d + 3) 214 (hpm c) [.ref 77, .int a1, .int 1] (hpm c) (some (.int (-2))) := by
  refine Rt_of aiX9_whyNot (Nat.le_of_ble_eq_true rfl) ?_
  refine Go_st rfl rfl ?_
  obtain ⟨rr, hrr, hcc⟩ := rm_isSlot (hpm c) d a1
  rcases hrr with rfl | rfl
  · refine Go_call rfl hcc (chkS rfl rfl rfl rfl) ?_
    refine Go_st rfl rfl ?_
    refine Go_ifT (by decide +kernel) ?_
    refine Go_st rfl rfl ?_
    exact Go_ret rfl ⟨_, rfl, rfl⟩
  · refine Go_call rfl hcc (chkS rfl rfl rfl rfl) ?_
    refine Go_st rfl rfl ?_
    refine Go_ifF (by decide +kernel) ?_
    refine Go_st rfl rfl ?_
    refine Go_call rfl (rm_X9_isStreet c (d + 1)) (chkV rfl rfl rfl rfl rfl rfl) ?_
    refine Go_st rfl rfl ?_
    refine Go_ifT (by decide +kernel) ?_
    refine Go_st rfl rfl ?_
    exact Go_ret rfl ⟨_, rfl, rfl⟩
set_option maxRecDepth 20000 in
set_option maxHeartbeats 4000000 in
theorem rm_X9_laws_v (c : Nat → pm_E) (d : Nat) (a1 : Int32) : pm_Rt pm_P (d + 4) 171 (hpm c) [.ref 77, .int a1] (hpm c) (some (.int (-2))) := by
  refine Rt_of aiX9_laws (Nat.le_of_ble_eq_true rfl) ?_
  refine Go_st rfl rfl ?_
  refine Go_st rfl rfl ?_
  refine Go_sm rfl rfl (sm_f rfl) ?_
  refine Go_st rfl rfl ?_
  refine Go_st rfl rfl ?_
  refine Go_st rfl rfl ?_
  refine Go_call rfl (rm_X9_whyNot_v_1 c d _) (chkV rfl rfl rfl rfl rfl rfl) ?_
  refine Go_st rfl rfl ?_
  refine Go_st rfl rfl ?_
  refine Go_st rfl rfl ?_
  refine Go_ifF (by decide +kernel) ?_
  refine Go_st rfl rfl ?_
  exact Go_ret rfl ⟨_, rfl, rfl⟩
set_option maxRecDepth 20000 in
set_option maxHeartbeats 4000000 in
theorem rx_X8_by_v (d : Nat) (a1 : Int32) : pm_Rt pm_P (d + 2) 25 (hp0) [.ref 0, .int a1] (hp0) (some (.int (-2))) := by
  refine Rt_of aiX8_by (Nat.le_of_ble_eq_true rfl) ?_
  refine Go_st rfl rfl ?_
  refine Go_call rfl (rx_X8_hasStreet d) (chkV rfl rfl rfl rfl rfl rfl) ?_
  refine Go_st rfl rfl ?_
  refine Go_ifT (by decide +kernel) ?_
  refine Go_st rfl rfl ?_
  exact Go_ret rfl ⟨_, rfl, rfl⟩
set_option maxRecDepth 20000 in
set_option maxHeartbeats 4000000 in
theorem rm_X9_by_v (c : Nat → pm_E) (d : Nat) (a1 : Int32) : pm_Rt pm_P (d + 2) 125 (hpm c) [.ref 77, .int a1] (hpm c) (some (.int (-2))) := by
  refine Rt_of aiX9_by (Nat.le_of_ble_eq_true rfl) ?_
  refine Go_st rfl rfl ?_
  refine Go_st rfl rfl ?_
  refine Go_sm rfl rfl (sm_f rfl) ?_
  refine Go_st rfl rfl ?_
  refine Go_call rfl (rm_X9_isStreet c d) (chkV rfl rfl rfl rfl rfl rfl) ?_
  refine Go_st rfl rfl ?_
  refine Go_ifT (by decide +kernel) ?_
  refine Go_st rfl rfl ?_
  exact Go_ret rfl ⟨_, rfl, rfl⟩
set_option maxRecDepth 20000 in
set_option maxHeartbeats 4000000 in
theorem rx_X8_law (d : Nat)  : pm_Rt pm_P (d + 2) 59 (hp0) [.ref 0] (hp0) (some (.int (-2))) := by
  refine Rt_of aiX8_law (Nat.le_of_ble_eq_true rfl) ?_
  refine Go_st rfl rfl ?_
  refine Go_call rfl (rx_X8_hasStreet d) (chkV rfl rfl rfl rfl rfl rfl) ?_
  refine Go_st rfl rfl ?_
  refine Go_ifF (by decide +kernel) ?_
  refine Go_st rfl rfl ?_
  exact Go_ret rfl ⟨_, rfl, rfl⟩
set_option maxRecDepth 20000 in
set_option maxHeartbeats 4000000 in
theorem rm_X9_law (c : Nat → pm_E) (d : Nat)  : pm_Rt pm_P (d + 2) 169 (hpm c) [.ref 77] (hpm c) (some (.int (-2))) := by
  refine Rt_of aiX9_law (Nat.le_of_ble_eq_true rfl) ?_
  refine Go_st rfl rfl ?_
  refine Go_st rfl rfl ?_
  refine Go_sm rfl rfl (sm_f rfl) ?_
  refine Go_st rfl rfl ?_
  refine Go_call rfl (rm_X9_isStreet c d) (chkV rfl rfl rfl rfl rfl rfl) ?_
  refine Go_st rfl rfl ?_
  refine Go_ifF (by decide +kernel) ?_
  refine Go_st rfl rfl ?_
  exact Go_ret rfl ⟨_, rfl, rfl⟩
set_option maxRecDepth 20000 in
set_option maxHeartbeats 4000000 in
theorem rx_X8_worth_v (d : Nat) (a1 : Int32) : pm_Rt pm_P (d + 2) 110 (hp0) [.ref 0, .int a1] (hp0) (some (.int (-2))) := by
  refine Rt_of aiX8_worth (Nat.le_of_ble_eq_true rfl) ?_
  refine Go_st rfl rfl ?_
  refine Go_call rfl (rx_X8_hasStreet d) (chkV rfl rfl rfl rfl rfl rfl) ?_
  refine Go_st rfl rfl ?_
  refine Go_ifT (by decide +kernel) ?_
  refine Go_st rfl rfl ?_
  exact Go_ret rfl ⟨_, rfl, rfl⟩
set_option maxRecDepth 20000 in
set_option maxHeartbeats 4000000 in
theorem rm_X9_worth_v (c : Nat → pm_E) (d : Nat) (a1 : Int32) : pm_Rt pm_P (d + 2) 218 (hpm c) [.ref 77, .int a1] (hpm c) (some (.int (-2))) := by
  refine Rt_of aiX9_worth (Nat.le_of_ble_eq_true rfl) ?_
  refine Go_st rfl rfl ?_
  refine Go_st rfl rfl ?_
  refine Go_sm rfl rfl (sm_f rfl) ?_
  refine Go_st rfl rfl ?_
  refine Go_call rfl (rm_X9_isStreet c d) (chkV rfl rfl rfl rfl rfl rfl) ?_
  refine Go_st rfl rfl ?_
  refine Go_ifT (by decide +kernel) ?_
  refine Go_st rfl rfl ?_
  exact Go_ret rfl ⟨_, rfl, rfl⟩
set_option maxRecDepth 20000 in
set_option maxHeartbeats 4000000 in
theorem rx_X8_share_v_v (d : Nat) (a1 : Int32) (a2 : Int32) : pm_Rt pm_P (d + 2) 90 (hp0) [.ref 0, .int a1, .int a2] (hp0) (some (.int (-1000000))) := by
  refine Rt_of aiX8_share (Nat.le_of_ble_eq_true rfl) ?_
  refine Go_st rfl rfl ?_
  refine Go_st rfl rfl ?_
  refine Go_call rfl (rx_X8_hasCar d _) (chkV rfl rfl rfl rfl rfl rfl) ?_
  refine Go_st rfl rfl ?_
  refine Go_ifT (by decide +kernel) ?_
  refine Go_st rfl rfl ?_
  exact Go_ret rfl ⟨_, rfl, rfl⟩
set_option maxRecDepth 20000 in
set_option maxHeartbeats 4000000 in
theorem rm_X9_share_v_v (c : Nat → pm_E) (d : Nat) (a1 : Int32) (a2 : Int32) : pm_Rt pm_P (d + 3) 198 (hpm c) [.ref 77, .int a1, .int a2] (hpm c) (some (.int (-1000000))) := by
  refine Rt_of aiX9_share (Nat.le_of_ble_eq_true rfl) ?_
  refine Go_st rfl rfl ?_
  refine Go_st rfl rfl ?_
  refine Go_sm rfl rfl (sm_f rfl) ?_
  refine Go_st rfl rfl ?_
  refine Go_st rfl rfl ?_
  refine Go_st rfl rfl ?_
  refine Go_call rfl (rm_X9_isCar_v c d _) (chkV rfl rfl rfl rfl rfl rfl) ?_
  refine Go_st rfl rfl ?_
  refine Go_ifT (by decide +kernel) ?_
  refine Go_st rfl rfl ?_
  exact Go_ret rfl ⟨_, rfl, rfl⟩
set_option maxRecDepth 20000 in
set_option maxHeartbeats 4000000 in
theorem rx_X8_rests_v_v (d : Nat) (a1 : Int32) (a2 : Int32) : pm_Rt pm_P (d + 3) 83 (hp0) [.ref 0, .int a1, .int a2] (hp0) (some (.int (-2))) := by
  refine Rt_of aiX8_rests (Nat.le_of_ble_eq_true rfl) ?_
  refine Go_st rfl rfl ?_
  refine Go_st rfl rfl ?_
  refine Go_st rfl rfl ?_
  refine Go_call rfl (rx_X8_hasPair_v_v d _ _) (chkV rfl rfl rfl rfl rfl rfl) ?_
  refine Go_st rfl rfl ?_
  refine Go_ifF (by decide +kernel) ?_
  refine Go_st rfl rfl ?_
  exact Go_ret rfl ⟨_, rfl, rfl⟩
set_option maxRecDepth 20000 in
set_option maxHeartbeats 4000000 in
theorem rm_X9_rests_v_v (c : Nat → pm_E) (d : Nat) (a1 : Int32) (a2 : Int32) : pm_Rt pm_P (d + 4) 193 (hpm c) [.ref 77, .int a1, .int a2] (hpm c) (some (.int (-2))) := by
  refine Rt_of aiX9_rests (Nat.le_of_ble_eq_true rfl) ?_
  refine Go_st rfl rfl ?_
  refine Go_st rfl rfl ?_
  refine Go_sm rfl rfl (sm_f rfl) ?_
  refine Go_st rfl rfl ?_
  refine Go_st rfl rfl ?_
  refine Go_st rfl rfl ?_
  refine Go_call rfl (rm_X9_areTwo_v_v c d _ _) (chkV rfl rfl rfl rfl rfl rfl) ?_
  refine Go_st rfl rfl ?_
  refine Go_ifF (by decide +kernel) ?_
  refine Go_st rfl rfl ?_
  exact Go_ret rfl ⟨_, rfl, rfl⟩
set_option maxRecDepth 20000 in
set_option maxHeartbeats 4000000 in
theorem rx_X8_gets_v_v_v_v (d : Nat) (a1 : Int32) (a2 : Int32) (a3 : Int32) (a4 : Int32) : pm_Rt pm_P (d + 3) 41 (hp0) [.ref 0, .int a1, .int a2, .int a3, .int a4] (hp0) (some (.int (-1000))) := by
  refine Rt_of aiX8_gets (Nat.le_of_ble_eq_true rfl) ?_
  refine Go_st rfl rfl ?_
  refine Go_st rfl rfl ?_
  refine Go_st rfl rfl ?_
  refine Go_call rfl (rx_X8_hasPair_v_v d _ _) (chkV rfl rfl rfl rfl rfl rfl) ?_
  refine Go_st rfl rfl ?_
  refine Go_ifT (by decide +kernel) ?_
  refine Go_st rfl rfl ?_
  exact Go_ret rfl ⟨_, rfl, rfl⟩
set_option maxRecDepth 20000 in
set_option maxHeartbeats 4000000 in
theorem rm_X9_gets_v_v_v_v (c : Nat → pm_E) (d : Nat) (a1 : Int32) (a2 : Int32) (a3 : Int32) (a4 : Int32) : pm_Rt pm_P (d + 4) 147 (hpm c) [.ref 77, .int a1, .int a2, .int a3, .int a4] (hpm c) (some (.int (-1000))) := by
  refine Rt_of aiX9_gets (Nat.le_of_ble_eq_true rfl) ?_
  refine Go_st rfl rfl ?_
  refine Go_st rfl rfl ?_
  refine Go_sm rfl rfl (sm_f rfl) ?_
  refine Go_st rfl rfl ?_
  refine Go_st rfl rfl ?_
  refine Go_st rfl rfl ?_
  refine Go_call rfl (rm_X9_areTwo_v_v c d _ _) (chkV rfl rfl rfl rfl rfl rfl) ?_
  refine Go_st rfl rfl ?_
  refine Go_ifT (by decide +kernel) ?_
  refine Go_st rfl rfl ?_
  exact Go_ret rfl ⟨_, rfl, rfl⟩
set_option maxRecDepth 20000 in
set_option maxHeartbeats 4000000 in
theorem rx_X8_chance_v_v (d : Nat) (a1 : Int32) (a2 : Int32) : pm_Rt pm_P (d + 2) 28 (hp0) [.ref 0, .int a1, .int a2] (hp0) (some (.int (-2))) := by
  refine Rt_of aiX8_chance (Nat.le_of_ble_eq_true rfl) ?_
  refine Go_st rfl rfl ?_
  refine Go_st rfl rfl ?_
  refine Go_call rfl (rx_X8_hasCar d _) (chkV rfl rfl rfl rfl rfl rfl) ?_
  refine Go_st rfl rfl ?_
  refine Go_ifT (by decide +kernel) ?_
  refine Go_st rfl rfl ?_
  exact Go_ret rfl ⟨_, rfl, rfl⟩
set_option maxRecDepth 20000 in
set_option maxHeartbeats 4000000 in
theorem rm_X9_chance_v_v (c : Nat → pm_E) (d : Nat) (a1 : Int32) (a2 : Int32) : pm_Rt pm_P (d + 3) 129 (hpm c) [.ref 77, .int a1, .int a2] (hpm c) (some (.int (-2))) := by
  refine Rt_of aiX9_chance (Nat.le_of_ble_eq_true rfl) ?_
  refine Go_st rfl rfl ?_
  refine Go_st rfl rfl ?_
  refine Go_sm rfl rfl (sm_f rfl) ?_
  refine Go_st rfl rfl ?_
  refine Go_st rfl rfl ?_
  refine Go_st rfl rfl ?_
  refine Go_call rfl (rm_X9_isCar_v c d _) (chkV rfl rfl rfl rfl rfl rfl) ?_
  refine Go_st rfl rfl ?_
  refine Go_ifT (by decide +kernel) ?_
  refine Go_st rfl rfl ?_
  exact Go_ret rfl ⟨_, rfl, rfl⟩
set_option maxRecDepth 20000 in
set_option maxHeartbeats 4000000 in
theorem rx_X8_mean_v (d : Nat) (a1 : Int32) : pm_Rt pm_P (d + 2) 68 (hp0) [.ref 0, .int a1] (hp0) (some (.long (-2))) := by
  refine Rt_of aiX8_mean (Nat.le_of_ble_eq_true rfl) ?_
  refine Go_st rfl rfl ?_
  refine Go_call rfl (rx_X8_hasStreet d) (chkV rfl rfl rfl rfl rfl rfl) ?_
  refine Go_st rfl rfl ?_
  refine Go_ifT (by decide +kernel) ?_
  refine Go_st rfl rfl ?_
  exact Go_ret rfl ⟨_, rfl, rfl⟩
set_option maxRecDepth 20000 in
set_option maxHeartbeats 4000000 in
theorem rm_X9_mean_v (c : Nat → pm_E) (d : Nat) (a1 : Int32) : pm_Rt pm_P (d + 2) 178 (hpm c) [.ref 77, .int a1] (hpm c) (some (.long (-2))) := by
  refine Rt_of aiX9_mean (Nat.le_of_ble_eq_true rfl) ?_
  refine Go_st rfl rfl ?_
  refine Go_st rfl rfl ?_
  refine Go_sm rfl rfl (sm_f rfl) ?_
  refine Go_st rfl rfl ?_
  refine Go_call rfl (rm_X9_isStreet c d) (chkV rfl rfl rfl rfl rfl rfl) ?_
  refine Go_st rfl rfl ?_
  refine Go_ifT (by decide +kernel) ?_
  refine Go_st rfl rfl ?_
  exact Go_ret rfl ⟨_, rfl, rfl⟩
set_option maxRecDepth 20000 in
set_option maxHeartbeats 4000000 in
theorem rx_X8_wants_v_v (d : Nat) (a1 : Int32) (a2 : Int32) : pm_Rt pm_P (d + 2) 107 (hp0) [.ref 0, .int a1, .int a2] (hp0) (some (.int (-2))) := by
  refine Rt_of aiX8_wants (Nat.le_of_ble_eq_true rfl) ?_
  refine Go_st rfl rfl ?_
  refine Go_st rfl rfl ?_
  refine Go_call rfl (rx_X8_hasCar d _) (chkV rfl rfl rfl rfl rfl rfl) ?_
  refine Go_st rfl rfl ?_
  refine Go_ifT (by decide +kernel) ?_
  refine Go_st rfl rfl ?_
  exact Go_ret rfl ⟨_, rfl, rfl⟩
set_option maxRecDepth 20000 in
set_option maxHeartbeats 4000000 in
theorem rm_X9_wants_v_v (c : Nat → pm_E) (d : Nat) (a1 : Int32) (a2 : Int32) : pm_Rt pm_P (d + 3) 213 (hpm c) [.ref 77, .int a1, .int a2] (hpm c) (some (.int (-2))) := by
  refine Rt_of aiX9_wants (Nat.le_of_ble_eq_true rfl) ?_
  refine Go_st rfl rfl ?_
  refine Go_st rfl rfl ?_
  refine Go_sm rfl rfl (sm_f rfl) ?_
  refine Go_st rfl rfl ?_
  refine Go_st rfl rfl ?_
  refine Go_st rfl rfl ?_
  refine Go_call rfl (rm_X9_isCar_v c d _) (chkV rfl rfl rfl rfl rfl rfl) ?_
  refine Go_st rfl rfl ?_
  refine Go_ifT (by decide +kernel) ?_
  refine Go_st rfl rfl ?_
  exact Go_ret rfl ⟨_, rfl, rfl⟩
set_option maxRecDepth 20000 in
set_option maxHeartbeats 4000000 in
theorem rx_X8_trades_v_v (d : Nat) (a1 : Int32) (a2 : Int32) : pm_Rt pm_P (d + 3) 101 (hp0) [.ref 0, .int a1, .int a2] (hp0) (some (.int (-2))) := by
  refine Rt_of aiX8_trades (Nat.le_of_ble_eq_true rfl) ?_
  refine Go_st rfl rfl ?_
  refine Go_st rfl rfl ?_
  refine Go_st rfl rfl ?_
  refine Go_call rfl (rx_X8_hasPair_v_v d _ _) (chkV rfl rfl rfl rfl rfl rfl) ?_
  refine Go_st rfl rfl ?_
  refine Go_ifF (by decide +kernel) ?_
  refine Go_st rfl rfl ?_
  exact Go_ret rfl ⟨_, rfl, rfl⟩
set_option maxRecDepth 20000 in
set_option maxHeartbeats 4000000 in
theorem rm_X9_trades_v_v (c : Nat → pm_E) (d : Nat) (a1 : Int32) (a2 : Int32) : pm_Rt pm_P (d + 4) 207 (hpm c) [.ref 77, .int a1, .int a2] (hpm c) (some (.int (-2))) := by
  refine Rt_of aiX9_trades (Nat.le_of_ble_eq_true rfl) ?_
  refine Go_st rfl rfl ?_
  refine Go_st rfl rfl ?_
  refine Go_sm rfl rfl (sm_f rfl) ?_
  refine Go_st rfl rfl ?_
  refine Go_st rfl rfl ?_
  refine Go_st rfl rfl ?_
  refine Go_call rfl (rm_X9_areTwo_v_v c d _ _) (chkV rfl rfl rfl rfl rfl rfl) ?_
  refine Go_st rfl rfl ?_
  refine Go_ifF (by decide +kernel) ?_
  refine Go_st rfl rfl ?_
  exact Go_ret rfl ⟨_, rfl, rfl⟩
set_option maxRecDepth 20000 in
set_option maxHeartbeats 4000000 in
theorem rx_X8_undo (d : Nat)  : pm_Rt pm_P (d + 2) 104 (hp0) [.ref 0] (hp0) (some (.int (-2))) := by
  refine Rt_of aiX8_undo (Nat.le_of_ble_eq_true rfl) ?_
  refine Go_st rfl rfl ?_
  refine Go_call rfl (rx_X8_hasStreet d) (chkV rfl rfl rfl rfl rfl rfl) ?_
  refine Go_st rfl rfl ?_
  refine Go_ifF (by decide +kernel) ?_
  refine Go_st rfl rfl ?_
  exact Go_ret rfl ⟨_, rfl, rfl⟩
set_option maxRecDepth 20000 in
set_option maxHeartbeats 4000000 in
theorem rm_X9_undo (c : Nat → pm_E) (d : Nat)  : pm_Rt pm_P (d + 2) 210 (hpm c) [.ref 77] (hpm c) (some (.int (-2))) := by
  refine Rt_of aiX9_undo (Nat.le_of_ble_eq_true rfl) ?_
  refine Go_st rfl rfl ?_
  refine Go_st rfl rfl ?_
  refine Go_sm rfl rfl (sm_f rfl) ?_
  refine Go_st rfl rfl ?_
  refine Go_call rfl (rm_X9_isStreet c d) (chkV rfl rfl rfl rfl rfl rfl) ?_
  refine Go_st rfl rfl ?_
  refine Go_ifF (by decide +kernel) ?_
  refine Go_st rfl rfl ?_
  exact Go_ret rfl ⟨_, rfl, rfl⟩
set_option maxRecDepth 20000 in
set_option maxHeartbeats 4000000 in
theorem rx_X8_anew (d : Nat)  : pm_Rt pm_P (d + 2) 16 (hp0) [.ref 0] (hp0) (some (.int (-2))) := by
  refine Rt_of aiX8_anew (Nat.le_of_ble_eq_true rfl) ?_
  refine Go_st rfl rfl ?_
  refine Go_call rfl (rx_X8_hasStreet d) (chkV rfl rfl rfl rfl rfl rfl) ?_
  refine Go_st rfl rfl ?_
  refine Go_ifF (by decide +kernel) ?_
  refine Go_st rfl rfl ?_
  exact Go_ret rfl ⟨_, rfl, rfl⟩
set_option maxRecDepth 20000 in
set_option maxHeartbeats 4000000 in
theorem rm_X9_anew (c : Nat → pm_E) (d : Nat)  : pm_Rt pm_P (d + 2) 114 (hpm c) [.ref 77] (hpm c) (some (.int (-2))) := by
  refine Rt_of aiX9_anew (Nat.le_of_ble_eq_true rfl) ?_
  refine Go_st rfl rfl ?_
  refine Go_st rfl rfl ?_
  refine Go_sm rfl rfl (sm_f rfl) ?_
  refine Go_st rfl rfl ?_
  refine Go_call rfl (rm_X9_isStreet c d) (chkV rfl rfl rfl rfl rfl rfl) ?_
  refine Go_st rfl rfl ?_
  refine Go_ifF (by decide +kernel) ?_
  refine Go_st rfl rfl ?_
  exact Go_ret rfl ⟨_, rfl, rfl⟩
set_option maxRecDepth 20000 in
set_option maxHeartbeats 4000000 in
theorem rx_X8_drawn_v_v (d : Nat) (a1 : Int32) (a2 : Int32) : pm_Rt pm_P (d + 2) 32 (hp0) [.ref 0, .int a1, .int a2] (hp0) (some (.int (-2))) := by
  refine Rt_of aiX8_drawn (Nat.le_of_ble_eq_true rfl) ?_
  refine Go_st rfl rfl ?_
  refine Go_call rfl (rx_X8_hasStreet d) (chkV rfl rfl rfl rfl rfl rfl) ?_
  refine Go_st rfl rfl ?_
  refine Go_ifT (by decide +kernel) ?_
  refine Go_st rfl rfl ?_
  exact Go_ret rfl ⟨_, rfl, rfl⟩
set_option maxRecDepth 20000 in
set_option maxHeartbeats 4000000 in
theorem rm_X9_drawn_v_v (c : Nat → pm_E) (d : Nat) (a1 : Int32) (a2 : Int32) : pm_Rt pm_P (d + 2) 136 (hpm c) [.ref 77, .int a1, .int a2] (hpm c) (some (.int (-2))) := by
  refine Rt_of aiX9_drawn (Nat.le_of_ble_eq_true rfl) ?_
  refine Go_st rfl rfl ?_
  refine Go_st rfl rfl ?_
  refine Go_sm rfl rfl (sm_f rfl) ?_
  refine Go_st rfl rfl ?_
  refine Go_call rfl (rm_X9_isStreet c d) (chkV rfl rfl rfl rfl rfl rfl) ?_
  refine Go_st rfl rfl ?_
  refine Go_ifT (by decide +kernel) ?_
  refine Go_st rfl rfl ?_
  exact Go_ret rfl ⟨_, rfl, rfl⟩
set_option maxRecDepth 20000 in
set_option maxHeartbeats 4000000 in
theorem rx_X8_luck_v_v_v (d : Nat) (a1 : Int32) (a2 : Int32) (a3 : Int32) : pm_Rt pm_P (d + 2) 65 (hp0) [.ref 0, .int a1, .int a2, .int a3] (hp0) (some (.int (-2))) := by
  refine Rt_of aiX8_luck (Nat.le_of_ble_eq_true rfl) ?_
  refine Go_st rfl rfl ?_
  refine Go_st rfl rfl ?_
  refine Go_call rfl (rx_X8_hasCar d _) (chkV rfl rfl rfl rfl rfl rfl) ?_
  refine Go_st rfl rfl ?_
  refine Go_ifT (by decide +kernel) ?_
  refine Go_st rfl rfl ?_
  exact Go_ret rfl ⟨_, rfl, rfl⟩
set_option maxRecDepth 20000 in
set_option maxHeartbeats 4000000 in
theorem rm_X9_luck_v_v_v (c : Nat → pm_E) (d : Nat) (a1 : Int32) (a2 : Int32) (a3 : Int32) : pm_Rt pm_P (d + 3) 175 (hpm c) [.ref 77, .int a1, .int a2, .int a3] (hpm c) (some (.int (-2))) := by
  refine Rt_of aiX9_luck (Nat.le_of_ble_eq_true rfl) ?_
  refine Go_st rfl rfl ?_
  refine Go_st rfl rfl ?_
  refine Go_sm rfl rfl (sm_f rfl) ?_
  refine Go_st rfl rfl ?_
  obtain ⟨rr, hrr, hcc⟩ := rm_isSeed (hpm c) d a1
  rcases hrr with rfl | rfl
  · refine Go_call rfl hcc (chkS rfl rfl rfl rfl) ?_
    refine Go_st rfl rfl ?_
    refine Go_ifT (by decide +kernel) ?_
    refine Go_st rfl rfl ?_
    exact Go_ret rfl ⟨_, rfl, rfl⟩
  · refine Go_call rfl hcc (chkS rfl rfl rfl rfl) ?_
    refine Go_st rfl rfl ?_
    refine Go_ifF (by decide +kernel) ?_
    refine Go_st rfl rfl ?_
    refine Go_st rfl rfl ?_
    refine Go_st rfl rfl ?_
    refine Go_st rfl rfl ?_
    obtain ⟨rr, hrr, hcc⟩ := rm_in (hpm c) (d + 1) (a2.toInt64) (1) (20)
    rcases hrr with rfl | rfl
    · refine Go_call rfl hcc (chkS rfl rfl rfl rfl) ?_
      refine Go_st rfl rfl ?_
      refine Go_ifT (by decide +kernel) ?_
      refine Go_st rfl rfl ?_
      exact Go_ret rfl ⟨_, rfl, rfl⟩
    · refine Go_call rfl hcc (chkS rfl rfl rfl rfl) ?_
      refine Go_st rfl rfl ?_
      refine Go_ifF (by decide +kernel) ?_
      refine Go_st rfl rfl ?_
      refine Go_st rfl rfl ?_
      refine Go_st rfl rfl ?_
      refine Go_call rfl (rm_X9_isCar_v c d _) (chkV rfl rfl rfl rfl rfl rfl) ?_
      refine Go_st rfl rfl ?_
      refine Go_ifF (by decide +kernel) ?_
      refine Go_st rfl rfl ?_
      exact Go_ret rfl ⟨_, rfl, rfl⟩
set_option maxRecDepth 20000 in
set_option maxHeartbeats 4000000 in
theorem rx_X8_rate_v_v (d : Nat) (a1 : Int32) (a2 : Int32) : pm_Rt pm_P (d + 2) 78 (hp0) [.ref 0, .int a1, .int a2] (hp0) (some (.int (-2))) := by
  refine Rt_of aiX8_rate (Nat.le_of_ble_eq_true rfl) ?_
  refine Go_st rfl rfl ?_
  refine Go_st rfl rfl ?_
  refine Go_call rfl (rx_X8_hasCar d _) (chkV rfl rfl rfl rfl rfl rfl) ?_
  refine Go_st rfl rfl ?_
  refine Go_ifT (by decide +kernel) ?_
  refine Go_st rfl rfl ?_
  exact Go_ret rfl ⟨_, rfl, rfl⟩
set_option maxRecDepth 20000 in
set_option maxHeartbeats 4000000 in
theorem rm_X9_rate_v_v (c : Nat → pm_E) (d : Nat) (a1 : Int32) (a2 : Int32) : pm_Rt pm_P (d + 3) 189 (hpm c) [.ref 77, .int a1, .int a2] (hpm c) (some (.int (-2))) := by
  refine Rt_of aiX9_rate (Nat.le_of_ble_eq_true rfl) ?_
  refine Go_st rfl rfl ?_
  refine Go_st rfl rfl ?_
  refine Go_sm rfl rfl (sm_f rfl) ?_
  refine Go_st rfl rfl ?_
  refine Go_st rfl rfl ?_
  refine Go_st rfl rfl ?_
  refine Go_call rfl (rm_X9_isCar_v c d _) (chkV rfl rfl rfl rfl rfl rfl) ?_
  refine Go_st rfl rfl ?_
  refine Go_ifT (by decide +kernel) ?_
  refine Go_st rfl rfl ?_
  exact Go_ret rfl ⟨_, rfl, rfl⟩
set_option maxRecDepth 20000 in
set_option maxHeartbeats 4000000 in
theorem rx_X8_count_0 (d : Nat)  : pm_Rt pm_P (d + 1) 30 (hp0) [.ref 0, .int 0] (hp0) (some (.int 0)) := by
  refine Rt_of aiX8_count (Nat.le_of_ble_eq_true rfl) ?_
  refine Go_st rfl rfl ?_
  refine Go_st rfl rfl ?_
  refine Go_st rfl rfl ?_
  refine Go_st rfl rfl ?_
  refine Go_st rfl rfl ?_
  exact Go_ret rfl ⟨_, rfl, rfl⟩
set_option maxRecDepth 20000 in
set_option maxHeartbeats 4000000 in
theorem rx_X8_count_1 (d : Nat)  : pm_Rt pm_P (d + 1) 30 (hp0) [.ref 0, .int 1] (hp0) (some (.int 0)) := by
  refine Rt_of aiX8_count (Nat.le_of_ble_eq_true rfl) ?_
  refine Go_st rfl rfl ?_
  refine Go_st rfl rfl ?_
  refine Go_st rfl rfl ?_
  refine Go_st rfl rfl ?_
  refine Go_st rfl rfl ?_
  exact Go_ret rfl ⟨_, rfl, rfl⟩
set_option maxRecDepth 20000 in
set_option maxHeartbeats 4000000 in
theorem rx_X8_count_2 (d : Nat)  : pm_Rt pm_P (d + 1) 30 (hp0) [.ref 0, .int 2] (hp0) (some (.int 0)) := by
  refine Rt_of aiX8_count (Nat.le_of_ble_eq_true rfl) ?_
  refine Go_st rfl rfl ?_
  refine Go_st rfl rfl ?_
  refine Go_st rfl rfl ?_
  refine Go_st rfl rfl ?_
  refine Go_st rfl rfl ?_
  exact Go_ret rfl ⟨_, rfl, rfl⟩
set_option maxRecDepth 20000 in
set_option maxHeartbeats 4000000 in
theorem rx_X8_count_3 (d : Nat)  : pm_Rt pm_P (d + 1) 30 (hp0) [.ref 0, .int 3] (hp0) (some (.int 0)) := by
  refine Rt_of aiX8_count (Nat.le_of_ble_eq_true rfl) ?_
  refine Go_st rfl rfl ?_
  refine Go_st rfl rfl ?_
  refine Go_st rfl rfl ?_
  refine Go_st rfl rfl ?_
  refine Go_st rfl rfl ?_
  exact Go_ret rfl ⟨_, rfl, rfl⟩
set_option maxRecDepth 20000 in
set_option maxHeartbeats 4000000 in
theorem rx_X8_count_4 (d : Nat)  : pm_Rt pm_P (d + 1) 30 (hp0) [.ref 0, .int 4] (hp0) (some (.int 0)) := by
  refine Rt_of aiX8_count (Nat.le_of_ble_eq_true rfl) ?_
  refine Go_st rfl rfl ?_
  refine Go_st rfl rfl ?_
  refine Go_st rfl rfl ?_
  refine Go_st rfl rfl ?_
  refine Go_st rfl rfl ?_
  exact Go_ret rfl ⟨_, rfl, rfl⟩
set_option maxRecDepth 20000 in
set_option maxHeartbeats 4000000 in
theorem rx_X8_count_5 (d : Nat)  : pm_Rt pm_P (d + 1) 30 (hp0) [.ref 0, .int 5] (hp0) (some (.int 0)) := by
  refine Rt_of aiX8_count (Nat.le_of_ble_eq_true rfl) ?_
  refine Go_st rfl rfl ?_
  refine Go_st rfl rfl ?_
  refine Go_st rfl rfl ?_
  refine Go_st rfl rfl ?_
  refine Go_st rfl rfl ?_
  exact Go_ret rfl ⟨_, rfl, rfl⟩
set_option maxRecDepth 20000 in
set_option maxHeartbeats 4000000 in
theorem rx_X8_count_6 (d : Nat)  : pm_Rt pm_P (d + 1) 30 (hp0) [.ref 0, .int 6] (hp0) (some (.int 0)) := by
  refine Rt_of aiX8_count (Nat.le_of_ble_eq_true rfl) ?_
  refine Go_st rfl rfl ?_
  refine Go_st rfl rfl ?_
  refine Go_st rfl rfl ?_
  refine Go_st rfl rfl ?_
  refine Go_st rfl rfl ?_
  exact Go_ret rfl ⟨_, rfl, rfl⟩
set_option maxRecDepth 20000 in
set_option maxHeartbeats 4000000 in
theorem rx_X8_count_7 (d : Nat)  : pm_Rt pm_P (d + 1) 30 (hp0) [.ref 0, .int 7] (hp0) (some (.int 0)) := by
  refine Rt_of aiX8_count (Nat.le_of_ble_eq_true rfl) ?_
  refine Go_st rfl rfl ?_
  refine Go_st rfl rfl ?_
  refine Go_st rfl rfl ?_
  refine Go_st rfl rfl ?_
  refine Go_st rfl rfl ?_
  exact Go_ret rfl ⟨_, rfl, rfl⟩
set_option maxRecDepth 20000 in
set_option maxHeartbeats 4000000 in
theorem rx_X8_slotsWithRows (d : Nat)  : pm_Rt pm_P (d + 1) 94 (hp0) [.ref 0] (hp0) (some (.int 0)) := by
  refine Rt_of aiX8_slotsWithRows (Nat.le_of_ble_eq_true rfl) ?_
  refine Go_st rfl rfl ?_
  refine Go_st rfl rfl ?_
  refine Go_st rfl rfl ?_
  refine Go_st rfl rfl ?_
  refine Go_st rfl rfl ?_
  refine Go_st rfl rfl ?_
  refine Go_st rfl rfl ?_
  refine Go_ifF (by decide +kernel) ?_
  refine Go_st rfl rfl ?_
  refine Go_st rfl rfl ?_
  refine Go_st rfl rfl ?_
  refine Go_aald (k := 54) rfl rfl rfl (by decide +kernel) (by decide +kernel) ?_
  refine Go_st rfl rfl ?_
  refine Go_st rfl rfl ?_
  refine Go_ifT (by decide +kernel) ?_
  refine Go_incL (v := 1) (lv' := [(2, .int 1), (1, .int 0), (0, .ref 0)]) rfl rfl (by decide +kernel) rfl ?_
  refine Go_st rfl rfl ?_
  refine Go_st rfl rfl ?_
  refine Go_st rfl rfl ?_
  refine Go_st rfl rfl ?_
  refine Go_ifF (by decide +kernel) ?_
  refine Go_st rfl rfl ?_
  refine Go_st rfl rfl ?_
  refine Go_st rfl rfl ?_
  refine Go_aald (k := 56) rfl rfl rfl (by decide +kernel) (by decide +kernel) ?_
  refine Go_st rfl rfl ?_
  refine Go_st rfl rfl ?_
  refine Go_ifT (by decide +kernel) ?_
  refine Go_incL (v := 2) (lv' := [(2, .int 2), (1, .int 0), (0, .ref 0)]) rfl rfl (by decide +kernel) rfl ?_
  refine Go_st rfl rfl ?_
  refine Go_st rfl rfl ?_
  refine Go_st rfl rfl ?_
  refine Go_st rfl rfl ?_
  refine Go_ifF (by decide +kernel) ?_
  refine Go_st rfl rfl ?_
  refine Go_st rfl rfl ?_
  refine Go_st rfl rfl ?_
  refine Go_aald (k := 58) rfl rfl rfl (by decide +kernel) (by decide +kernel) ?_
  refine Go_st rfl rfl ?_
  refine Go_st rfl rfl ?_
  refine Go_ifT (by decide +kernel) ?_
  refine Go_incL (v := 3) (lv' := [(2, .int 3), (1, .int 0), (0, .ref 0)]) rfl rfl (by decide +kernel) rfl ?_
  refine Go_st rfl rfl ?_
  refine Go_st rfl rfl ?_
  refine Go_st rfl rfl ?_
  refine Go_st rfl rfl ?_
  refine Go_ifF (by decide +kernel) ?_
  refine Go_st rfl rfl ?_
  refine Go_st rfl rfl ?_
  refine Go_st rfl rfl ?_
  refine Go_aald (k := 60) rfl rfl rfl (by decide +kernel) (by decide +kernel) ?_
  refine Go_st rfl rfl ?_
  refine Go_st rfl rfl ?_
  refine Go_ifT (by decide +kernel) ?_
  refine Go_incL (v := 4) (lv' := [(2, .int 4), (1, .int 0), (0, .ref 0)]) rfl rfl (by decide +kernel) rfl ?_
  refine Go_st rfl rfl ?_
  refine Go_st rfl rfl ?_
  refine Go_st rfl rfl ?_
  refine Go_st rfl rfl ?_
  refine Go_ifT (by decide +kernel) ?_
  refine Go_st rfl rfl ?_
  exact Go_ret rfl ⟨_, rfl, rfl⟩
set_option maxRecDepth 20000 in
set_option maxHeartbeats 4000000 in
theorem rx_X8_count_8 (d : Nat)  : pm_Rt pm_P (d + 2) 30 (hp0) [.ref 0, .int 8] (hp0) (some (.int 0)) := by
  refine Rt_of aiX8_count (Nat.le_of_ble_eq_true rfl) ?_
  refine Go_st rfl rfl ?_
  refine Go_st rfl rfl ?_
  refine Go_st rfl rfl ?_
  refine Go_call rfl (rx_X8_slotsWithRows d) (chkV rfl rfl rfl rfl rfl rfl) ?_
  exact Go_ret rfl ⟨_, rfl, rfl⟩
set_option maxRecDepth 20000 in
set_option maxHeartbeats 4000000 in
theorem rm_X9_count_0 (c : Nat → pm_E) (d : Nat)  : pm_Rt pm_P (d + 2) 134 (hpm c) [.ref 77, .int 0] (hpm c) (some (.int 0)) := by
  refine Rt_of aiX9_count (Nat.le_of_ble_eq_true rfl) ?_
  refine Go_st rfl rfl ?_
  refine Go_st rfl rfl ?_
  refine Go_sm rfl rfl (sm_f rfl) ?_
  refine Go_st rfl rfl ?_
  refine Go_st rfl rfl ?_
  refine Go_st rfl rfl ?_
  refine Go_st rfl rfl ?_
  refine Go_call rfl (rm_in1 _ d _ _ _ (by decide +kernel)) (chkS rfl rfl rfl rfl) ?_
  refine Go_st rfl rfl ?_
  refine Go_ifF (by decide +kernel) ?_
  refine Go_st rfl rfl ?_
  refine Go_st rfl rfl ?_
  refine Go_st rfl rfl ?_
  refine Go_iald (v := 0) rfl rfl (by decide +kernel) (by decide +kernel) ?_
  exact Go_ret rfl ⟨_, rfl, rfl⟩
set_option maxRecDepth 20000 in
set_option maxHeartbeats 4000000 in
theorem rm_X9_count_1 (c : Nat → pm_E) (d : Nat)  : pm_Rt pm_P (d + 2) 134 (hpm c) [.ref 77, .int 1] (hpm c) (some (.int 0)) := by
  refine Rt_of aiX9_count (Nat.le_of_ble_eq_true rfl) ?_
  refine Go_st rfl rfl ?_
  refine Go_st rfl rfl ?_
  refine Go_sm rfl rfl (sm_f rfl) ?_
  refine Go_st rfl rfl ?_
  refine Go_st rfl rfl ?_
  refine Go_st rfl rfl ?_
  refine Go_st rfl rfl ?_
  refine Go_call rfl (rm_in1 _ d _ _ _ (by decide +kernel)) (chkS rfl rfl rfl rfl) ?_
  refine Go_st rfl rfl ?_
  refine Go_ifF (by decide +kernel) ?_
  refine Go_st rfl rfl ?_
  refine Go_st rfl rfl ?_
  refine Go_st rfl rfl ?_
  refine Go_iald (v := 0) rfl rfl (by decide +kernel) (by decide +kernel) ?_
  exact Go_ret rfl ⟨_, rfl, rfl⟩
set_option maxRecDepth 20000 in
set_option maxHeartbeats 4000000 in
theorem rm_X9_count_2 (c : Nat → pm_E) (d : Nat)  : pm_Rt pm_P (d + 2) 134 (hpm c) [.ref 77, .int 2] (hpm c) (some (.int 0)) := by
  refine Rt_of aiX9_count (Nat.le_of_ble_eq_true rfl) ?_
  refine Go_st rfl rfl ?_
  refine Go_st rfl rfl ?_
  refine Go_sm rfl rfl (sm_f rfl) ?_
  refine Go_st rfl rfl ?_
  refine Go_st rfl rfl ?_
  refine Go_st rfl rfl ?_
  refine Go_st rfl rfl ?_
  refine Go_call rfl (rm_in1 _ d _ _ _ (by decide +kernel)) (chkS rfl rfl rfl rfl) ?_
  refine Go_st rfl rfl ?_
  refine Go_ifF (by decide +kernel) ?_
  refine Go_st rfl rfl ?_
  refine Go_st rfl rfl ?_
  refine Go_st rfl rfl ?_
  refine Go_iald (v := 0) rfl rfl (by decide +kernel) (by decide +kernel) ?_
  exact Go_ret rfl ⟨_, rfl, rfl⟩
set_option maxRecDepth 20000 in
set_option maxHeartbeats 4000000 in
theorem rm_X9_count_3 (c : Nat → pm_E) (d : Nat)  : pm_Rt pm_P (d + 2) 134 (hpm c) [.ref 77, .int 3] (hpm c) (some (.int 0)) := by
  refine Rt_of aiX9_count (Nat.le_of_ble_eq_true rfl) ?_
  refine Go_st rfl rfl ?_
  refine Go_st rfl rfl ?_
  refine Go_sm rfl rfl (sm_f rfl) ?_
  refine Go_st rfl rfl ?_
  refine Go_st rfl rfl ?_
  refine Go_st rfl rfl ?_
  refine Go_st rfl rfl ?_
  refine Go_call rfl (rm_in1 _ d _ _ _ (by decide +kernel)) (chkS rfl rfl rfl rfl) ?_
  refine Go_st rfl rfl ?_
  refine Go_ifF (by decide +kernel) ?_
  refine Go_st rfl rfl ?_
  refine Go_st rfl rfl ?_
  refine Go_st rfl rfl ?_
  refine Go_iald (v := 0) rfl rfl (by decide +kernel) (by decide +kernel) ?_
  exact Go_ret rfl ⟨_, rfl, rfl⟩
set_option maxRecDepth 20000 in
set_option maxHeartbeats 4000000 in
theorem rm_X9_count_4 (c : Nat → pm_E) (d : Nat)  : pm_Rt pm_P (d + 2) 134 (hpm c) [.ref 77, .int 4] (hpm c) (some (.int 0)) := by
  refine Rt_of aiX9_count (Nat.le_of_ble_eq_true rfl) ?_
  refine Go_st rfl rfl ?_
  refine Go_st rfl rfl ?_
  refine Go_sm rfl rfl (sm_f rfl) ?_
  refine Go_st rfl rfl ?_
  refine Go_st rfl rfl ?_
  refine Go_st rfl rfl ?_
  refine Go_st rfl rfl ?_
  refine Go_call rfl (rm_in1 _ d _ _ _ (by decide +kernel)) (chkS rfl rfl rfl rfl) ?_
  refine Go_st rfl rfl ?_
  refine Go_ifF (by decide +kernel) ?_
  refine Go_st rfl rfl ?_
  refine Go_st rfl rfl ?_
  refine Go_st rfl rfl ?_
  refine Go_iald (v := 0) rfl rfl (by decide +kernel) (by decide +kernel) ?_
  exact Go_ret rfl ⟨_, rfl, rfl⟩
set_option maxRecDepth 20000 in
set_option maxHeartbeats 4000000 in
theorem rm_X9_count_5 (c : Nat → pm_E) (d : Nat)  : pm_Rt pm_P (d + 2) 134 (hpm c) [.ref 77, .int 5] (hpm c) (some (.int 0)) := by
  refine Rt_of aiX9_count (Nat.le_of_ble_eq_true rfl) ?_
  refine Go_st rfl rfl ?_
  refine Go_st rfl rfl ?_
  refine Go_sm rfl rfl (sm_f rfl) ?_
  refine Go_st rfl rfl ?_
  refine Go_st rfl rfl ?_
  refine Go_st rfl rfl ?_
  refine Go_st rfl rfl ?_
  refine Go_call rfl (rm_in1 _ d _ _ _ (by decide +kernel)) (chkS rfl rfl rfl rfl) ?_
  refine Go_st rfl rfl ?_
  refine Go_ifF (by decide +kernel) ?_
  refine Go_st rfl rfl ?_
  refine Go_st rfl rfl ?_
  refine Go_st rfl rfl ?_
  refine Go_iald (v := 0) rfl rfl (by decide +kernel) (by decide +kernel) ?_
  exact Go_ret rfl ⟨_, rfl, rfl⟩
set_option maxRecDepth 20000 in
set_option maxHeartbeats 4000000 in
theorem rm_X9_count_6 (c : Nat → pm_E) (d : Nat)  : pm_Rt pm_P (d + 2) 134 (hpm c) [.ref 77, .int 6] (hpm c) (some (.int 0)) := by
  refine Rt_of aiX9_count (Nat.le_of_ble_eq_true rfl) ?_
  refine Go_st rfl rfl ?_
  refine Go_st rfl rfl ?_
  refine Go_sm rfl rfl (sm_f rfl) ?_
  refine Go_st rfl rfl ?_
  refine Go_st rfl rfl ?_
  refine Go_st rfl rfl ?_
  refine Go_st rfl rfl ?_
  refine Go_call rfl (rm_in0 _ d _ _ _ (by decide +kernel)) (chkS rfl rfl rfl rfl) ?_
  refine Go_st rfl rfl ?_
  refine Go_ifT (by decide +kernel) ?_
  refine Go_st rfl rfl ?_
  refine Go_st rfl rfl ?_
  refine Go_st rfl rfl ?_
  refine Go_st rfl rfl ?_
  refine Go_st rfl rfl ?_
  refine Go_st rfl rfl ?_
  refine Go_st rfl rfl ?_
  refine Go_iald (v := 0) rfl rfl (by decide +kernel) (by decide +kernel) ?_
  exact Go_ret rfl ⟨_, rfl, rfl⟩
set_option maxRecDepth 20000 in
set_option maxHeartbeats 4000000 in
theorem rm_X9_count_7 (c : Nat → pm_E) (d : Nat)  : pm_Rt pm_P (d + 2) 134 (hpm c) [.ref 77, .int 7] (hpm c) (some (.int 0)) := by
  refine Rt_of aiX9_count (Nat.le_of_ble_eq_true rfl) ?_
  refine Go_st rfl rfl ?_
  refine Go_st rfl rfl ?_
  refine Go_sm rfl rfl (sm_f rfl) ?_
  refine Go_st rfl rfl ?_
  refine Go_st rfl rfl ?_
  refine Go_st rfl rfl ?_
  refine Go_st rfl rfl ?_
  refine Go_call rfl (rm_in0 _ d _ _ _ (by decide +kernel)) (chkS rfl rfl rfl rfl) ?_
  refine Go_st rfl rfl ?_
  refine Go_ifT (by decide +kernel) ?_
  refine Go_st rfl rfl ?_
  refine Go_st rfl rfl ?_
  refine Go_st rfl rfl ?_
  refine Go_st rfl rfl ?_
  refine Go_st rfl rfl ?_
  refine Go_st rfl rfl ?_
  exact Go_ret rfl ⟨_, rfl, rfl⟩
