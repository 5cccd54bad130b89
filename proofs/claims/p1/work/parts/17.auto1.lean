/-! runs on a fresh object (written by gen_auto.py) -/
set_option maxRecDepth 20000 in
set_option maxHeartbeats 4000000 in
theorem rm_X9_car_v_v (c : Nat → pm_E) (d : Nat) (a1 : Int32) (a2 : Int32) : pm_Rt pm_P (d + 3) 126 (hpm c) [.ref 77, .int a1, .int a2] (hpm c) (some (.int (-2))) := by
  refine Rt_of aiX9_car (Nat.le_of_ble_eq_true rfl) ?_
  refine Go_st rfl rfl ?_
  refine Go_st rfl rfl ?_
  refine Go_sm rfl rfl (sm_f rfl) ?_
  refine Go_st rfl rfl ?_
  refine Go_st rfl rfl ?_
  refine Go_st rfl rfl ?_
  refine Go_call rfl (rm_X9_isCar_v c d _) (chkV rfl rfl rfl rfl rfl rfl) ?_
  refine Go_st rfl rfl ?_
  refine Go_ifT (by decide +kernel) ?_
  refine Go_st rfl rfl ?_
  exact Go_ret rfl ⟨_, rfl, rfl⟩
set_option maxRecDepth 20000 in
set_option maxHeartbeats 4000000 in
theorem rx_X8_place_v (d : Nat) (a1 : Int32) : pm_Rt pm_P (d + 2) 75 (hp0) [.ref 0, .int a1] (hp0) (some (.int (-2))) := by
  refine Rt_of aiX8_place (Nat.le_of_ble_eq_true rfl) ?_
  refine Go_st rfl rfl ?_
  refine Go_st rfl rfl ?_
  refine Go_call rfl (rx_X8_hasCar d _) (chkV rfl rfl rfl rfl rfl rfl) ?_
  refine Go_st rfl rfl ?_
  refine Go_ifF (by decide +kernel) ?_
  refine Go_st rfl rfl ?_
  exact Go_ret rfl ⟨_, rfl, rfl⟩
set_option maxRecDepth 20000 in
set_option maxHeartbeats 4000000 in
theorem rm_X9_place_v (c : Nat → pm_E) (d : Nat) (a1 : Int32) : pm_Rt pm_P (d + 3) 185 (hpm c) [.ref 77, .int a1] (hpm c) (some (.int (-2))) := by
  refine Rt_of aiX9_place (Nat.le_of_ble_eq_true rfl) ?_
  refine Go_st rfl rfl ?_
  refine Go_st rfl rfl ?_
  refine Go_sm rfl rfl (sm_f rfl) ?_
  refine Go_st rfl rfl ?_
  refine Go_st rfl rfl ?_
  refine Go_st rfl rfl ?_
  refine Go_call rfl (rm_X9_isCar_v c d _) (chkV rfl rfl rfl rfl rfl rfl) ?_
  refine Go_st rfl rfl ?_
  refine Go_ifF (by decide +kernel) ?_
  refine Go_st rfl rfl ?_
  exact Go_ret rfl ⟨_, rfl, rfl⟩
set_option maxRecDepth 20000 in
set_option maxHeartbeats 4000000 in
theorem rx_X8_steps_v (d : Nat) (a1 : Int32) : pm_Rt pm_P (d + 2) 96 (hp0) [.ref 0, .int a1] (hp0) (some (.int (-2))) := by
  refine Rt_of aiX8_steps (Nat.le_of_ble_eq_true rfl) ?_
  refine Go_st rfl rfl ?_
  refine Go_st rfl rfl ?_
  refine Go_call rfl (rx_X8_hasCar d _) (chkV rfl rfl rfl rfl rfl rfl) ?_
  refine Go_st rfl rfl ?_
  refine Go_ifF (by decide +kernel) ?_
  refine Go_st rfl rfl ?_
  exact Go_ret rfl ⟨_, rfl, rfl⟩
set_option maxRecDepth 20000 in
set_option maxHeartbeats 4000000 in
theorem rm_X9_steps_v (c : Nat → pm_E) (d : Nat) (a1 : Int32) : pm_Rt pm_P (d + 3) 202 (hpm c) [.ref 77, .int a1] (hpm c) (some (.int (-2))) := by
  refine Rt_of aiX9_steps (Nat.le_of_ble_eq_true rfl) ?_
  refine Go_st rfl rfl ?_
  refine Go_st rfl rfl ?_
  refine Go_sm rfl rfl (sm_f rfl) ?_
  refine Go_st rfl rfl ?_
  refine Go_st rfl rfl ?_
  refine Go_st rfl rfl ?_
  refine Go_call rfl (rm_X9_isCar_v c d _) (chkV rfl rfl rfl rfl rfl rfl) ?_
  refine Go_st rfl rfl ?_
  refine Go_ifF (by decide +kernel) ?_
  refine Go_st rfl rfl ?_
  exact Go_ret rfl ⟨_, rfl, rfl⟩
set_option maxRecDepth 20000 in
set_option maxHeartbeats 4000000 in
theorem rx_X8_hasStreet (d : Nat)  : pm_Rt pm_P (d + 1) 47 (hp0) [.ref 0] (hp0) (some (.int 0)) := by
  refine Rt_of aiX8_hasStreet (Nat.le_of_ble_eq_true rfl) ?_
  refine Go_st rfl rfl ?_
  refine Go_st rfl rfl ?_
  refine Go_st rfl rfl ?_
  refine Go_st rfl rfl ?_
  refine Go_ifT (by decide +kernel) ?_
  refine Go_st rfl rfl ?_
  exact Go_ret rfl ⟨_, rfl, by decide, rfl⟩
set_option maxRecDepth 20000 in
set_option maxHeartbeats 4000000 in
theorem rx_X8_lost (d : Nat)  : pm_Rt pm_P (d + 2) 64 (hp0) [.ref 0] (hp0) (some (.int (-2))) := by
  refine Rt_of aiX8_lost (Nat.le_of_ble_eq_true rfl) ?_
  refine Go_st rfl rfl ?_
  refine Go_call rfl (rx_X8_hasStreet d) (chkV rfl rfl rfl rfl rfl rfl) ?_
  refine Go_st rfl rfl ?_
  refine Go_ifF (by decide +kernel) ?_
  refine Go_st rfl rfl ?_
  exact Go_ret rfl ⟨_, rfl, rfl⟩
set_option maxRecDepth 20000 in
set_option maxHeartbeats 4000000 in
theorem rm_X9_isStreet (c : Nat → pm_E) (d : Nat)  : pm_Rt pm_P (d + 1) 165 (hpm c) [.ref 77] (hpm c) (some (.int 0)) := by
  refine Rt_of aiX9_isStreet (Nat.le_of_ble_eq_true rfl) ?_
  refine Go_st rfl rfl ?_
  refine Go_st rfl rfl ?_
  refine Go_st rfl rfl ?_
  refine Go_iald (v := 0) rfl rfl (by decide +kernel) (by decide +kernel) ?_
  refine Go_st rfl rfl ?_
  refine Go_ifT (by decide +kernel) ?_
  refine Go_st rfl rfl ?_
  exact Go_ret rfl ⟨_, rfl, by decide, rfl⟩
set_option maxRecDepth 20000 in
set_option maxHeartbeats 4000000 in
theorem rm_X9_lost (c : Nat → pm_E) (d : Nat)  : pm_Rt pm_P (d + 2) 174 (hpm c) [.ref 77] (hpm c) (some (.int (-2))) := by
  refine Rt_of aiX9_lost (Nat.le_of_ble_eq_true rfl) ?_
  refine Go_st rfl rfl ?_
  refine Go_st rfl rfl ?_
  refine Go_sm rfl rfl (sm_f rfl) ?_
  refine Go_st rfl rfl ?_
  refine Go_call rfl (rm_X9_isStreet c d) (chkV rfl rfl rfl rfl rfl rfl) ?_
  refine Go_st rfl rfl ?_
  refine Go_ifF (by decide +kernel) ?_
  refine Go_st rfl rfl ?_
  exact Go_ret rfl ⟨_, rfl, rfl⟩
set_option maxRecDepth 20000 in
set_option maxHeartbeats 4000000 in
theorem rx_X8_free (d : Nat)  : pm_Rt pm_P (d + 2) 40 (hp0) [.ref 0] (hp0) (some (.int (-2))) := by
  refine Rt_of aiX8_free (Nat.le_of_ble_eq_true rfl) ?_
  refine Go_st rfl rfl ?_
  refine Go_call rfl (rx_X8_hasStreet d) (chkV rfl rfl rfl rfl rfl rfl) ?_
  refine Go_st rfl rfl ?_
  refine Go_ifF (by decide +kernel) ?_
  refine Go_st rfl rfl ?_
  exact Go_ret rfl ⟨_, rfl, rfl⟩
set_option maxRecDepth 20000 in
set_option maxHeartbeats 4000000 in
theorem rm_X9_free (c : Nat → pm_E) (d : Nat)  : pm_Rt pm_P (d + 2) 146 (hpm c) [.ref 77] (hpm c) (some (.int (-2))) := by
  refine Rt_of aiX9_free (Nat.le_of_ble_eq_true rfl) ?_
  refine Go_st rfl rfl ?_
  refine Go_st rfl rfl ?_
  refine Go_sm rfl rfl (sm_f rfl) ?_
  refine Go_st rfl rfl ?_
  refine Go_call rfl (rm_X9_isStreet c d) (chkV rfl rfl rfl rfl rfl rfl) ?_
  refine Go_st rfl rfl ?_
  refine Go_ifF (by decide +kernel) ?_
  refine Go_st rfl rfl ?_
  exact Go_ret rfl ⟨_, rfl, rfl⟩
set_option maxRecDepth 20000 in
set_option maxHeartbeats 4000000 in
theorem rx_X8_holder_v (d : Nat) (a1 : Int32) : pm_Rt pm_P (d + 2) 48 (hp0) [.ref 0, .int a1] (hp0) (some (.int (-2))) := by
  refine Rt_of aiX8_holder (Nat.le_of_ble_eq_true rfl) ?_
  refine Go_st rfl rfl ?_
  refine Go_st rfl rfl ?_
  refine Go_call rfl (rx_X8_hasPlace d _) (chkV rfl rfl rfl rfl rfl rfl) ?_
  refine Go_st rfl rfl ?_
  refine Go_ifF (by decide +kernel) ?_
  refine Go_st rfl rfl ?_
  exact Go_ret rfl ⟨_, rfl, rfl⟩
set_option maxRecDepth 20000 in
set_option maxHeartbeats 4000000 in
theorem rm_X9_isPlace_v (c : Nat → pm_E) (d : Nat) (a1 : Int32) : pm_Rt pm_P (d + 2) 161 (hpm c) [.ref 77, .int a1] (hpm c) (some (.int 0)) := by
  refine Rt_of aiX9_isPlace (Nat.le_of_ble_eq_true rfl) ?_
  refine Go_st rfl rfl ?_
  refine Go_call rfl (rm_X9_isStreet c d) (chkV rfl rfl rfl rfl rfl rfl) ?_
  refine Go_st rfl rfl ?_
  refine Go_ifT (by decide +kernel) ?_
  refine Go_st rfl rfl ?_
  exact Go_ret rfl ⟨_, rfl, by decide, rfl⟩
set_option maxRecDepth 20000 in
set_option maxHeartbeats 4000000 in
theorem rm_X9_holder_v (c : Nat → pm_E) (d : Nat) (a1 : Int32) : pm_Rt pm_P (d + 3) 148 (hpm c) [.ref 77, .int a1] (hpm c) (some (.int (-2))) := by
  refine Rt_of aiX9_holder (Nat.le_of_ble_eq_true rfl) ?_
  refine Go_st rfl rfl ?_
  refine Go_st rfl rfl ?_
  refine Go_sm rfl rfl (sm_f rfl) ?_
  refine Go_st rfl rfl ?_
  refine Go_st rfl rfl ?_
  refine Go_call rfl (rm_X9_isPlace_v c d _) (chkV rfl rfl rfl rfl rfl rfl) ?_
  refine Go_st rfl rfl ?_
  refine Go_ifF (by decide +kernel) ?_
  refine Go_st rfl rfl ?_
  exact Go_ret rfl ⟨_, rfl, rfl⟩
set_option maxRecDepth 20000 in
set_option maxHeartbeats 4000000 in
theorem rx_X8_lucky (d : Nat)  : pm_Rt pm_P (d + 2) 66 (hp0) [.ref 0] (hp0) (some (.int (-2))) := by
  refine Rt_of aiX8_lucky (Nat.le_of_ble_eq_true rfl) ?_
  refine Go_st rfl rfl ?_
  refine Go_call rfl (rx_X8_hasStreet d) (chkV rfl rfl rfl rfl rfl rfl) ?_
  refine Go_st rfl rfl ?_
  refine Go_ifF (by decide +kernel) ?_
  refine Go_st rfl rfl ?_
  exact Go_ret rfl ⟨_, rfl, rfl⟩
set_option maxRecDepth 20000 in
set_option maxHeartbeats 4000000 in
theorem rm_X9_lucky (c : Nat → pm_E) (d : Nat)  : pm_Rt pm_P (d + 2) 176 (hpm c) [.ref 77] (hpm c) (some (.int (-2))) := by
  refine Rt_of aiX9_lucky (Nat.le_of_ble_eq_true rfl) ?_
  refine Go_st rfl rfl ?_
  refine Go_st rfl rfl ?_
  refine Go_sm rfl rfl (sm_f rfl) ?_
  refine Go_st rfl rfl ?_
  refine Go_call rfl (rm_X9_isStreet c d) (chkV rfl rfl rfl rfl rfl rfl) ?_
  refine Go_st rfl rfl ?_
  refine Go_ifF (by decide +kernel) ?_
  refine Go_st rfl rfl ?_
  exact Go_ret rfl ⟨_, rfl, rfl⟩
set_option maxRecDepth 20000 in
set_option maxHeartbeats 4000000 in
theorem rx_X8_sum (d : Nat)  : pm_Rt pm_P (d + 2) 98 (hp0) [.ref 0] (hp0) (some (.int (-2))) := by
  refine Rt_of aiX8_sum (Nat.le_of_ble_eq_true rfl) ?_
  refine Go_st rfl rfl ?_
  refine Go_call rfl (rx_X8_hasStreet d) (chkV rfl rfl rfl rfl rfl rfl) ?_
  refine Go_st rfl rfl ?_
  refine Go_ifF (by decide +kernel) ?_
  refine Go_st rfl rfl ?_
  exact Go_ret rfl ⟨_, rfl, rfl⟩
set_option maxRecDepth 20000 in
set_option maxHeartbeats 4000000 in
theorem rm_X9_sum (c : Nat → pm_E) (d : Nat)  : pm_Rt pm_P (d + 2) 204 (hpm c) [.ref 77] (hpm c) (some (.int (-2))) := by
  refine Rt_of aiX9_sum (Nat.le_of_ble_eq_true rfl) ?_
  refine Go_st rfl rfl ?_
  refine Go_st rfl rfl ?_
  refine Go_sm rfl rfl (sm_f rfl) ?_
  refine Go_st rfl rfl ?_
  refine Go_call rfl (rm_X9_isStreet c d) (chkV rfl rfl rfl rfl rfl rfl) ?_
  refine Go_st rfl rfl ?_
  refine Go_ifF (by decide +kernel) ?_
  refine Go_st rfl rfl ?_
  exact Go_ret rfl ⟨_, rfl, rfl⟩
set_option maxRecDepth 20000 in
set_option maxHeartbeats 4000000 in
theorem rx_X8_worst (d : Nat)  : pm_Rt pm_P (d + 2) 109 (hp0) [.ref 0] (hp0) (some (.int (-2))) := by
  refine Rt_of aiX8_worst (Nat.le_of_ble_eq_true rfl) ?_
  refine Go_st rfl rfl ?_
  refine Go_call rfl (rx_X8_hasStreet d) (chkV rfl rfl rfl rfl rfl rfl) ?_
  refine Go_st rfl rfl ?_
  refine Go_ifF (by decide +kernel) ?_
  refine Go_st rfl rfl ?_
  exact Go_ret rfl ⟨_, rfl, rfl⟩
set_option maxRecDepth 20000 in
set_option maxHeartbeats 4000000 in
theorem rm_X9_worst (c : Nat → pm_E) (d : Nat)  : pm_Rt pm_P (d + 2) 217 (hpm c) [.ref 77] (hpm c) (some (.int (-2))) := by
  refine Rt_of aiX9_worst (Nat.le_of_ble_eq_true rfl) ?_
  refine Go_st rfl rfl ?_
  refine Go_st rfl rfl ?_
  refine Go_sm rfl rfl (sm_f rfl) ?_
  refine Go_st rfl rfl ?_
  refine Go_call rfl (rm_X9_isStreet c d) (chkV rfl rfl rfl rfl rfl rfl) ?_
  refine Go_st rfl rfl ?_
  refine Go_ifF (by decide +kernel) ?_
  refine Go_st rfl rfl ?_
  exact Go_ret rfl ⟨_, rfl, rfl⟩
set_option maxRecDepth 20000 in
set_option maxHeartbeats 4000000 in
theorem rx_X8_runs (d : Nat)  : pm_Rt pm_P (d + 2) 88 (hp0) [.ref 0] (hp0) (some (.int (-2))) := by
  refine Rt_of aiX8_runs (Nat.le_of_ble_eq_true rfl) ?_
  refine Go_st rfl rfl ?_
  refine Go_call rfl (rx_X8_hasStreet d) (chkV rfl rfl rfl rfl rfl rfl) ?_
  refine Go_st rfl rfl ?_
  refine Go_ifF (by decide +kernel) ?_
  refine Go_st rfl rfl ?_
  exact Go_ret rfl ⟨_, rfl, rfl⟩
set_option maxRecDepth 20000 in
set_option maxHeartbeats 4000000 in
theorem rm_X9_runs (c : Nat → pm_E) (d : Nat)  : pm_Rt pm_P (d + 2) 197 (hpm c) [.ref 77] (hpm c) (some (.int (-2))) := by
  refine Rt_of aiX9_runs (Nat.le_of_ble_eq_true rfl) ?_
  refine Go_st rfl rfl ?_
  refine Go_st rfl rfl ?_
  refine Go_sm rfl rfl (sm_f rfl) ?_
  refine Go_st rfl rfl ?_
  refine Go_call rfl (rm_X9_isStreet c d) (chkV rfl rfl rfl rfl rfl rfl) ?_
  refine Go_st rfl rfl ?_
  refine Go_ifF (by decide +kernel) ?_
  refine Go_st rfl rfl ?_
  exact Go_ret rfl ⟨_, rfl, rfl⟩
set_option maxRecDepth 20000 in
set_option maxHeartbeats 4000000 in
theorem rx_X8_sorted_v (d : Nat) (a1 : Int32) : pm_Rt pm_P (d + 2) 95 (hp0) [.ref 0, .int a1] (hp0) (some (.int (-2))) := by
  refine Rt_of aiX8_sorted (Nat.le_of_ble_eq_true rfl) ?_
  refine Go_st rfl rfl ?_
  refine Go_call rfl (rx_X8_hasStreet d) (chkV rfl rfl rfl rfl rfl rfl) ?_
  refine Go_st rfl rfl ?_
  refine Go_ifT (by decide +kernel) ?_
  refine Go_st rfl rfl ?_
  exact Go_ret rfl ⟨_, rfl, rfl⟩
set_option maxRecDepth 20000 in
set_option maxHeartbeats 4000000 in
theorem rm_X9_sorted_v (c : Nat → pm_E) (d : Nat) (a1 : Int32) : pm_Rt pm_P (d + 2) 201 (hpm c) [.ref 77, .int a1] (hpm c) (some (.int (-2))) := by
  refine Rt_of aiX9_sorted (Nat.le_of_ble_eq_true rfl) ?_
  refine Go_st rfl rfl ?_
  refine Go_st rfl rfl ?_
  refine Go_sm rfl rfl (sm_f rfl) ?_
  refine Go_st rfl rfl ?_
  refine Go_call rfl (rm_X9_isStreet c d) (chkV rfl rfl rfl rfl rfl rfl) ?_
  refine Go_st rfl rfl ?_
  refine Go_ifT (by decide +kernel) ?_
  refine Go_st rfl rfl ?_
  exact Go_ret rfl ⟨_, rfl, rfl⟩
set_option maxRecDepth 20000 in
set_option maxHeartbeats 4000000 in
theorem rx_X8_lawful (d : Nat)  : pm_Rt pm_P (d + 2) 60 (hp0) [.ref 0] (hp0) (some (.int (-2))) := by
  refine Rt_of aiX8_lawful (Nat.le_of_ble_eq_true rfl) ?_
  refine Go_st rfl rfl ?_
  refine Go_call rfl (rx_X8_hasStreet d) (chkV rfl rfl rfl rfl rfl rfl) ?_
  refine Go_st rfl rfl ?_
  refine Go_ifF (by decide +kernel) ?_
  refine Go_st rfl rfl ?_
  exact Go_ret rfl ⟨_, rfl, rfl⟩
set_option maxRecDepth 20000 in
set_option maxHeartbeats 4000000 in
theorem rm_X9_lawful (c : Nat → pm_E) (d : Nat)  : pm_Rt pm_P (d + 2) 170 (hpm c) [.ref 77] (hpm c) (some (.int (-2))) := by
  refine Rt_of aiX9_lawful (Nat.le_of_ble_eq_true rfl) ?_
  refine Go_st rfl rfl ?_
  refine Go_st rfl rfl ?_
  refine Go_sm rfl rfl (sm_f rfl) ?_
  refine Go_st rfl rfl ?_
  refine Go_call rfl (rm_X9_isStreet c d) (chkV rfl rfl rfl rfl rfl rfl) ?_
  refine Go_st rfl rfl ?_
  refine Go_ifF (by decide +kernel) ?_
  refine Go_st rfl rfl ?_
  exact Go_ret rfl ⟨_, rfl, rfl⟩
set_option maxRecDepth 20000 in
set_option maxHeartbeats 4000000 in
theorem rx_X8_prime (d : Nat)  : pm_Rt pm_P (d + 2) 76 (hp0) [.ref 0] (hp0) (some (.int (-2))) := by
  refine Rt_of aiX8_prime (Nat.le_of_ble_eq_true rfl) ?_
  refine Go_st rfl rfl ?_
  refine Go_call rfl (rx_X8_hasStreet d) (chkV rfl rfl rfl rfl rfl rfl) ?_
  refine Go_st rfl rfl ?_
  refine Go_ifF (by decide +kernel) ?_
  refine Go_st rfl rfl ?_
  exact Go_ret rfl ⟨_, rfl, rfl⟩
set_option maxRecDepth 20000 in
set_option maxHeartbeats 4000000 in
theorem rm_X9_prime (c : Nat → pm_E) (d : Nat)  : pm_Rt pm_P (d + 2) 187 (hpm c) [.ref 77] (hpm c) (some (.int (-2))) := by
  refine Rt_of aiX9_prime (Nat.le_of_ble_eq_true rfl) ?_
  refine Go_st rfl rfl ?_
  refine Go_st rfl rfl ?_
  refine Go_sm rfl rfl (sm_f rfl) ?_
  refine Go_st rfl rfl ?_
  refine Go_call rfl (rm_X9_isStreet c d) (chkV rfl rfl rfl rfl rfl rfl) ?_
  refine Go_st rfl rfl ?_
  refine Go_ifF (by decide +kernel) ?_
  refine Go_st rfl rfl ?_
  exact Go_ret rfl ⟨_, rfl, rfl⟩
set_option maxRecDepth 20000 in
set_option maxHeartbeats 4000000 in
theorem rx_X8_rowRefusal_0 (d : Nat)  : pm_Rt pm_P (d + 1) 86 (hp0) [.ref 0, .int 0] (hp0) (some (.int (-2))) := by
  refine Rt_of aiX8_rowRefusal (Nat.le_of_ble_eq_true rfl) ?_
  refine Go_st rfl rfl ?_
  refine Go_st rfl rfl ?_
  refine Go_ifF (by decide +kernel) ?_
  refine Go_st rfl rfl ?_
  exact Go_ret rfl ⟨_, rfl, rfl⟩
set_option maxRecDepth 20000 in
set_option maxHeartbeats 4000000 in
theorem rx_X8_breaks (d : Nat)  : pm_Rt pm_P (d + 2) 23 (hp0) [.ref 0] (hp0) (some (.int (-2))) := by
  refine Rt_of aiX8_breaks (Nat.le_of_ble_eq_true rfl) ?_
  refine Go_st rfl rfl ?_
  refine Go_st rfl rfl ?_
  refine Go_call rfl (rx_X8_hasStreet d) (chkV rfl rfl rfl rfl rfl rfl) ?_
  refine Go_call rfl (rx_X8_rowRefusal_0 d) (chkV rfl rfl rfl rfl rfl rfl) ?_
  refine Go_st rfl rfl ?_
  refine Go_st rfl rfl ?_
  refine Go_st rfl rfl ?_
  refine Go_ifF (by decide +kernel) ?_
  refine Go_st rfl rfl ?_
  exact Go_ret rfl ⟨_, rfl, rfl⟩
set_option maxRecDepth 20000 in
set_option maxHeartbeats 4000000 in
theorem rm_X9_breaks (c : Nat → pm_E) (d : Nat)  : pm_Rt pm_P (d + 2) 123 (hpm c) [.ref 77] (hpm c) (some (.int (-2))) := by
  refine Rt_of aiX9_breaks (Nat.le_of_ble_eq_true rfl) ?_
  refine Go_st rfl rfl ?_
  refine Go_st rfl rfl ?_
  refine Go_sm rfl rfl (sm_f rfl) ?_
  refine Go_st rfl rfl ?_
  refine Go_call rfl (rm_X9_isStreet c d) (chkV rfl rfl rfl rfl rfl rfl) ?_
  refine Go_st rfl rfl ?_
  refine Go_ifF (by decide +kernel) ?_
  refine Go_st rfl rfl ?_
  exact Go_ret rfl ⟨_, rfl, rfl⟩
set_option maxRecDepth 20000 in
set_option maxHeartbeats 4000000 in
theorem rx_X8_likes (d : Nat)  : pm_Rt pm_P (d + 2) 63 (hp0) [.ref 0] (hp0) (some (.int (-2))) := by
  refine Rt_of aiX8_likes (Nat.le_of_ble_eq_true rfl) ?_
  refine Go_st rfl rfl ?_
  refine Go_call rfl (rx_X8_hasStreet d) (chkV rfl rfl rfl rfl rfl rfl) ?_
  refine Go_st rfl rfl ?_
  refine Go_ifF (by decide +kernel) ?_
  refine Go_st rfl rfl ?_
  exact Go_ret rfl ⟨_, rfl, rfl⟩
set_option maxRecDepth 20000 in
set_option maxHeartbeats 4000000 in
theorem rm_X9_likes (c : Nat → pm_E) (d : Nat)  : pm_Rt pm_P (d + 2) 173 (hpm c) [.ref 77] (hpm c) (some (.int (-2))) := by
  refine Rt_of aiX9_likes (Nat.le_of_ble_eq_true rfl) ?_
  refine Go_st rfl rfl ?_
  refine Go_st rfl rfl ?_
  refine Go_sm rfl rfl (sm_f rfl) ?_
  refine Go_st rfl rfl ?_
  refine Go_call rfl (rm_X9_isStreet c d) (chkV rfl rfl rfl rfl rfl rfl) ?_
  refine Go_st rfl rfl ?_
  refine Go_ifF (by decide +kernel) ?_
  refine Go_st rfl rfl ?_
  exact Go_ret rfl ⟨_, rfl, rfl⟩
set_option maxRecDepth 20000 in
set_option maxHeartbeats 4000000 in
theorem rx_X8_ring_v (d : Nat) (a1 : Int32) : pm_Rt pm_P (d + 2) 84 (hp0) [.ref 0, .int a1] (hp0) (some (.int (-2))) := by
  refine Rt_of aiX8_ring (Nat.le_of_ble_eq_true rfl) ?_
  refine Go_st rfl rfl ?_
  refine Go_st rfl rfl ?_
  refine Go_call rfl (rx_X8_hasCar d _) (chkV rfl rfl rfl rfl rfl rfl) ?_
  refine Go_st rfl rfl ?_
  refine Go_ifF (by decide +kernel) ?_
  refine Go_st rfl rfl ?_
  exact Go_ret rfl ⟨_, rfl, rfl⟩
set_option maxRecDepth 20000 in
set_option maxHeartbeats 4000000 in
theorem rm_X9_ring_v (c : Nat → pm_E) (d : Nat) (a1 : Int32) : pm_Rt pm_P (d + 3) 194 (hpm c) [.ref 77, .int a1] (hpm c) (some (.int (-2))) := by
  refine Rt_of aiX9_ring (Nat.le_of_ble_eq_true rfl) ?_
  refine Go_st rfl rfl ?_
  refine Go_st rfl rfl ?_
  refine Go_sm rfl rfl (sm_f rfl) ?_
  refine Go_st rfl rfl ?_
  refine Go_st rfl rfl ?_
  refine Go_st rfl rfl ?_
  refine Go_call rfl (rm_X9_isCar_v c d _) (chkV rfl rfl rfl rfl rfl rfl) ?_
  refine Go_st rfl rfl ?_
  refine Go_ifF (by decide +kernel) ?_
  refine Go_st rfl rfl ?_
  exact Go_ret rfl ⟨_, rfl, rfl⟩
set_option maxRecDepth 20000 in
set_option maxHeartbeats 4000000 in
theorem rx_X8_hole (d : Nat)  : pm_Rt pm_P (d + 2) 49 (hp0) [.ref 0] (hp0) (some (.int (-2))) := by
  refine Rt_of aiX8_hole (Nat.le_of_ble_eq_true rfl) ?_
  refine Go_st rfl rfl ?_
  refine Go_call rfl (rx_X8_hasStreet d) (chkV rfl rfl rfl rfl rfl rfl) ?_
  refine Go_st rfl rfl ?_
  refine Go_ifF (by decide +kernel) ?_
  refine Go_st rfl rfl ?_
  exact Go_ret rfl ⟨_, rfl, rfl⟩
set_option maxRecDepth 20000 in
set_option maxHeartbeats 4000000 in
theorem rm_X9_hole (c : Nat → pm_E) (d : Nat)  : pm_Rt pm_P (d + 2) 149 (hpm c) [.ref 77] (hpm c) (some (.int (-2))) := by
  refine Rt_of aiX9_hole (Nat.le_of_ble_eq_true rfl) ?_
  refine Go_st rfl rfl ?_
  refine Go_st rfl rfl ?_
  refine Go_sm rfl rfl (sm_f rfl) ?_
  refine Go_st rfl rfl ?_
  refine Go_call rfl (rm_X9_isStreet c d) (chkV rfl rfl rfl rfl rfl rfl) ?_
  refine Go_st rfl rfl ?_
  refine Go_ifF (by decide +kernel) ?_
  refine Go_st rfl rfl ?_
  exact Go_ret rfl ⟨_, rfl, rfl⟩
set_option maxRecDepth 20000 in
set_option maxHeartbeats 4000000 in
theorem rx_X8_shifts (d : Nat)  : pm_Rt pm_P (d + 2) 92 (hp0) [.ref 0] (hp0) (some (.int (-2))) := by
  refine Rt_of aiX8_shifts (Nat.le_of_ble_eq_true rfl) ?_
  refine Go_st rfl rfl ?_
  refine Go_call rfl (rx_X8_hasStreet d) (chkV rfl rfl rfl rfl rfl rfl) ?_
  refine Go_st rfl rfl ?_
  refine Go_ifF (by decide +kernel) ?_
  refine Go_st rfl rfl ?_
  exact Go_ret rfl ⟨_, rfl, rfl⟩
set_option maxRecDepth 20000 in
set_option maxHeartbeats 4000000 in
theorem rm_X9_shifts (c : Nat → pm_E) (d : Nat)  : pm_Rt pm_P (d + 2) 200 (hpm c) [.ref 77] (hpm c) (some (.int (-2))) := by
  refine Rt_of aiX9_shifts (Nat.le_of_ble_eq_true rfl) ?_
  refine Go_st rfl rfl ?_
  refine Go_st rfl rfl ?_
  refine Go_sm rfl rfl (sm_f rfl) ?_
  refine Go_st rfl rfl ?_
  refine Go_call rfl (rm_X9_isStreet c d) (chkV rfl rfl rfl rfl rfl rfl) ?_
  refine Go_st rfl rfl ?_
  refine Go_ifF (by decide +kernel) ?_
  refine Go_st rfl rfl ?_
  exact Go_ret rfl ⟨_, rfl, rfl⟩
set_option maxRecDepth 20000 in
set_option maxHeartbeats 4000000 in
theorem rx_X8_shifted_v_v (d : Nat) (a1 : Int32) (a2 : Int32) : pm_Rt pm_P (d + 2) 91 (hp0) [.ref 0, .int a1, .int a2] (hp0) (some (.int (-2))) := by
  refine Rt_of aiX8_shifted (Nat.le_of_ble_eq_true rfl) ?_
  refine Go_st rfl rfl ?_
  refine Go_st rfl rfl ?_
  refine Go_call rfl (rx_X8_hasCar d _) (chkV rfl rfl rfl rfl rfl rfl) ?_
  refine Go_st rfl rfl ?_
  refine Go_ifT (by decide +kernel) ?_
  refine Go_st rfl rfl ?_
  exact Go_ret rfl ⟨_, rfl, rfl⟩
set_option maxRecDepth 20000 in
set_option maxHeartbeats 4000000 in
theorem rm_X9_shifted_v_v (c : Nat → pm_E) (d : Nat) (a1 : Int32) (a2 : Int32) : pm_Rt pm_P (d + 3) 199 (hpm c) [.ref 77, .int a1, .int a2] (hpm c) (some (.int (-2))) := by
  refine Rt_of aiX9_shifted (Nat.le_of_ble_eq_true rfl) ?_
  refine Go_st rfl rfl ?_
  refine Go_st rfl rfl ?_
  refine Go_sm rfl rfl (sm_f rfl) ?_
  refine Go_st rfl rfl ?_
  refine Go_st rfl rfl ?_
  refine Go_st rfl rfl ?_
  refine Go_call rfl (rm_X9_isCar_v c d _) (chkV rfl rfl rfl rfl rfl rfl) ?_
  refine Go_st rfl rfl ?_
  refine Go_ifT (by decide +kernel) ?_
  refine Go_st rfl rfl ?_
  exact Go_ret rfl ⟨_, rfl, rfl⟩
set_option maxRecDepth 20000 in
set_option maxHeartbeats 4000000 in
theorem rx_X8_hangTree_0 (d : Nat)  : pm_Rt pm_P (d + 2) 42 (hp0) [.ref 0, .int 0] (hp0) (some (.int (-2))) := by
  refine Rt_of aiX8_hangTree (Nat.le_of_ble_eq_true rfl) ?_
  refine Go_st rfl rfl ?_
  refine Go_st rfl rfl ?_
  refine Go_call rfl (rx_X8_rowRefusal_0 d) (chkV rfl rfl rfl rfl rfl rfl) ?_
  refine Go_st rfl rfl ?_
  refine Go_st rfl rfl ?_
  refine Go_st rfl rfl ?_
  refine Go_ifT (by decide +kernel) ?_
  refine Go_st rfl rfl ?_
  exact Go_ret rfl ⟨_, rfl, rfl⟩
set_option maxRecDepth 20000 in
set_option maxHeartbeats 4000000 in
theorem rx_X8_parent_v (d : Nat) (a1 : Int32) : pm_Rt pm_P (d + 3) 73 (hp0) [.ref 0, .int a1] (hp0) (some (.int (-2))) := by
  refine Rt_of aiX8_parent (Nat.le_of_ble_eq_true rfl) ?_
  refine Go_st rfl rfl ?_
  refine Go_st rfl rfl ?_
  refine Go_st rfl rfl ?_
  refine Go_call rfl (rx_X8_hasCar (d + 1) _) (chkV rfl rfl rfl rfl rfl rfl) ?_
  refine Go_call rfl (rx_X8_hangTree_0 d) (chkV rfl rfl rfl rfl rfl rfl) ?_
  refine Go_st rfl rfl ?_
  refine Go_st rfl rfl ?_
  refine Go_st rfl rfl ?_
  refine Go_ifF (by decide +kernel) ?_
  refine Go_st rfl rfl ?_
  refine Go_st rfl rfl ?_
  exact Go_ret rfl ⟨_, rfl, rfl⟩
set_option maxRecDepth 20000 in
set_option maxHeartbeats 4000000 in
theorem rm_X9_parent_v (c : Nat → pm_E) (d : Nat) (a1 : Int32) : pm_Rt pm_P (d + 3) 183 (hpm c) [.ref 77, .int a1] (hpm c) (some (.int (-2))) := by
  refine Rt_of aiX9_parent (Nat.le_of_ble_eq_true rfl) ?_
  refine Go_st rfl rfl ?_
  refine Go_st rfl rfl ?_
  refine Go_sm rfl rfl (sm_f rfl) ?_
  refine Go_st rfl rfl ?_
  refine Go_st rfl rfl ?_
  refine Go_st rfl rfl ?_
  refine Go_call rfl (rm_X9_isCar_v c d _) (chkV rfl rfl rfl rfl rfl rfl) ?_
  refine Go_st rfl rfl ?_
  refine Go_ifF (by decide +kernel) ?_
  refine Go_st rfl rfl ?_
  exact Go_ret rfl ⟨_, rfl, rfl⟩
set_option maxRecDepth 20000 in
set_option maxHeartbeats 4000000 in
theorem rx_X8_depth_v (d : Nat) (a1 : Int32) : pm_Rt pm_P (d + 3) 31 (hp0) [.ref 0, .int a1] (hp0) (some (.int (-2))) := by
  refine Rt_of aiX8_depth (Nat.le_of_ble_eq_true rfl) ?_
  refine Go_st rfl rfl ?_
  refine Go_st rfl rfl ?_
  refine Go_st rfl rfl ?_
  refine Go_call rfl (rx_X8_hasCar (d + 1) _) (chkV rfl rfl rfl rfl rfl rfl) ?_
  refine Go_call rfl (rx_X8_hangTree_0 d) (chkV rfl rfl rfl rfl rfl rfl) ?_
  refine Go_st rfl rfl ?_
  refine Go_st rfl rfl ?_
  refine Go_st rfl rfl ?_
  refine Go_ifF (by decide +kernel) ?_
  refine Go_st rfl rfl ?_
  refine Go_st rfl rfl ?_
  exact Go_ret rfl ⟨_, rfl, rfl⟩
set_option maxRecDepth 20000 in
set_option maxHeartbeats 4000000 in
theorem rm_X9_depth_v (c : Nat → pm_E) (d : Nat) (a1 : Int32) : pm_Rt pm_P (d + 3) 135 (hpm c) [.ref 77, .int a1] (hpm c) (some (.int (-2))) := by
  refine Rt_of aiX9_depth (Nat.le_of_ble_eq_true rfl) ?_
  refine Go_st rfl rfl ?_
  refine Go_st rfl rfl ?_
  refine Go_sm rfl rfl (sm_f rfl) ?_
  refine Go_st rfl rfl ?_
  refine Go_st rfl rfl ?_
  refine Go_st rfl rfl ?_
  refine Go_call rfl (rm_X9_isCar_v c d _) (chkV rfl rfl rfl rfl rfl rfl) ?_
  refine Go_st rfl rfl ?_
  refine Go_ifF (by decide +kernel) ?_
  refine Go_st rfl rfl ?_
  exact Go_ret rfl ⟨_, rfl, rfl⟩
set_option maxRecDepth 20000 in
set_option maxHeartbeats 4000000 in
theorem rx_X8_kids_v (d : Nat) (a1 : Int32) : pm_Rt pm_P (d + 3) 56 (hp0) [.ref 0, .int a1] (hp0) (some (.int (-2))) := by
  refine Rt_of aiX8_kids (Nat.le_of_ble_eq_true rfl) ?_
  refine Go_st rfl rfl ?_
  refine Go_st rfl rfl ?_
  refine Go_call rfl (rx_X8_hasStreet (d + 1)) (chkV rfl rfl rfl rfl rfl rfl) ?_
  refine Go_st rfl rfl ?_
  refine Go_ifT (by decide +kernel) ?_
  refine Go_st rfl rfl ?_
  refine Go_call rfl (rx_X8_hangTree_0 d) (chkV rfl rfl rfl rfl rfl rfl) ?_
  refine Go_st rfl rfl ?_
  refine Go_st rfl rfl ?_
  refine Go_st rfl rfl ?_
  refine Go_ifF (by decide +kernel) ?_
  refine Go_st rfl rfl ?_
  refine Go_st rfl rfl ?_
  exact Go_ret rfl ⟨_, rfl, rfl⟩
set_option maxRecDepth 20000 in
set_option maxHeartbeats 4000000 in
theorem rm_X9_isNode_v (c : Nat → pm_E) (d : Nat) (a1 : Int32) : pm_Rt pm_P (d + 2) 158 (hpm c) [.ref 77, .int a1] (hpm c) (some (.int 0)) := by
  refine Rt_of aiX9_isNode (Nat.le_of_ble_eq_true rfl) ?_
  refine Go_st rfl rfl ?_
  refine Go_call rfl (rm_X9_isStreet c d) (chkV rfl rfl rfl rfl rfl rfl) ?_
  refine Go_st rfl rfl ?_
  refine Go_ifT (by decide +kernel) ?_
  refine Go_st rfl rfl ?_
  exact Go_ret rfl ⟨_, rfl, by decide, rfl⟩
set_option maxRecDepth 20000 in
set_option maxHeartbeats 4000000 in
theorem rm_X9_kids_v (c : Nat → pm_E) (d : Nat) (a1 : Int32) : pm_Rt pm_P (d + 3) 166 (hpm c) [.ref 77, .int a1] (hpm c) (some (.int (-2))) := by
  refine Rt_of aiX9_kids (Nat.le_of_ble_eq_true rfl) ?_
  refine Go_st rfl rfl ?_
  refine Go_st rfl rfl ?_
  refine Go_sm rfl rfl (sm_f rfl) ?_
  refine Go_st rfl rfl ?_
  refine Go_st rfl rfl ?_
  refine Go_call rfl (rm_X9_isNode_v c d _) (chkV rfl rfl rfl rfl rfl rfl) ?_
  refine Go_st rfl rfl ?_
  refine Go_ifF (by decide +kernel) ?_
  refine Go_st rfl rfl ?_
  exact Go_ret rfl ⟨_, rfl, rfl⟩
set_option maxRecDepth 20000 in
set_option maxHeartbeats 4000000 in
theorem rx_X8_queue_v (d : Nat) (a1 : Int32) : pm_Rt pm_P (d + 3) 77 (hp0) [.ref 0, .int a1] (hp0) (some (.int (-2))) := by
  refine Rt_of aiX8_queue (Nat.le_of_ble_eq_true rfl) ?_
  refine Go_st rfl rfl ?_
  refine Go_st rfl rfl ?_
  refine Go_call rfl (rx_X8_hasStreet (d + 1)) (chkV rfl rfl rfl rfl rfl rfl) ?_
  refine Go_st rfl rfl ?_
  refine Go_ifT (by decide +kernel) ?_
  refine Go_st rfl rfl ?_
  refine Go_call rfl (rx_X8_hangTree_0 d) (chkV rfl rfl rfl rfl rfl rfl) ?_
  refine Go_st rfl rfl ?_
  refine Go_st rfl rfl ?_
  refine Go_st rfl rfl ?_
  refine Go_ifF (by decide +kernel) ?_
  refine Go_st rfl rfl ?_
  refine Go_st rfl rfl ?_
  exact Go_ret rfl ⟨_, rfl, rfl⟩
set_option maxRecDepth 20000 in
set_option maxHeartbeats 4000000 in
theorem rm_X9_queue_v (c : Nat → pm_E) (d : Nat) (a1 : Int32) : pm_Rt pm_P (d + 3) 188 (hpm c) [.ref 77, .int a1] (hpm c) (some (.int (-2))) := by
  refine Rt_of aiX9_queue (Nat.le_of_ble_eq_true rfl) ?_
  refine Go_st rfl rfl ?_
  refine Go_st rfl rfl ?_
  refine Go_sm rfl rfl (sm_f rfl) ?_
  refine Go_st rfl rfl ?_
  refine Go_st rfl rfl ?_
  refine Go_call rfl (rm_X9_isNode_v c d _) (chkV rfl rfl rfl rfl rfl rfl) ?_
  refine Go_st rfl rfl ?_
  refine Go_ifF (by decide +kernel) ?_
  refine Go_st rfl rfl ?_
  exact Go_ret rfl ⟨_, rfl, rfl⟩
set_option maxRecDepth 20000 in
set_option maxHeartbeats 4000000 in
theorem rx_X8_leaves (d : Nat)  : pm_Rt pm_P (d + 3) 62 (hp0) [.ref 0] (hp0) (some (.int (-2))) := by
  refine Rt_of aiX8_leaves (Nat.le_of_ble_eq_true rfl) ?_
  refine Go_st rfl rfl ?_
  refine Go_st rfl rfl ?_
  refine Go_call rfl (rx_X8_hasStreet (d + 1)) (chkV rfl rfl rfl rfl rfl rfl) ?_
  refine Go_call rfl (rx_X8_hangTree_0 d) (chkV rfl rfl rfl rfl rfl rfl) ?_
  refine Go_st rfl rfl ?_
  refine Go_st rfl rfl ?_
  refine Go_st rfl rfl ?_
  refine Go_ifF (by decide +kernel) ?_
  refine Go_st rfl rfl ?_
  exact Go_ret rfl ⟨_, rfl, rfl⟩
set_option maxRecDepth 20000 in
set_option maxHeartbeats 4000000 in
theorem rm_X9_leaves (c : Nat → pm_E) (d : Nat)  : pm_Rt pm_P (d + 2) 172 (hpm c) [.ref 77] (hpm c) (some (.int (-2))) := by
  refine Rt_of aiX9_leaves (Nat.le_of_ble_eq_true rfl) ?_
  refine Go_st rfl rfl ?_
  refine Go_st rfl rfl ?_
  refine Go_sm rfl rfl (sm_f rfl) ?_
  refine Go_st rfl rfl ?_
  refine Go_call rfl (rm_X9_isStreet c d) (chkV rfl rfl rfl rfl rfl rfl) ?_
  refine Go_st rfl rfl ?_
  refine Go_ifF (by decide +kernel) ?_
  refine Go_st rfl rfl ?_
  exact Go_ret rfl ⟨_, rfl, rfl⟩
set_option maxRecDepth 20000 in
set_option maxHeartbeats 4000000 in
theorem rx_X8_inversions (d : Nat)  : pm_Rt pm_P (d + 3) 52 (hp0) [.ref 0] (hp0) (some (.int (-2))) := by
  refine Rt_of aiX8_inversions (Nat.le_of_ble_eq_true rfl) ?_
  refine Go_st rfl rfl ?_
  refine Go_st rfl rfl ?_
  refine Go_call rfl (rx_X8_hasStreet (d + 1)) (chkV rfl rfl rfl rfl rfl rfl) ?_
  refine Go_call rfl (rx_X8_hangTree_0 d) (chkV rfl rfl rfl rfl rfl rfl) ?_
  refine Go_st rfl rfl ?_
  refine Go_st rfl rfl ?_
  refine Go_st rfl rfl ?_
  refine Go_ifF (by decide +kernel) ?_
  refine Go_st rfl rfl ?_
  refine Go_st rfl rfl ?_
  exact Go_ret rfl ⟨_, rfl, rfl⟩
set_option maxRecDepth 20000 in
set_option maxHeartbeats 4000000 in
theorem rm_X9_inversions (c : Nat → pm_E) (d : Nat)  : pm_Rt pm_P (d + 2) 153 (hpm c) [.ref 77] (hpm c) (some (.int (-2))) := by
  refine Rt_of aiX9_inversions (Nat.le_of_ble_eq_true rfl) ?_
  refine Go_st rfl rfl ?_
  refine Go_st rfl rfl ?_
  refine Go_sm rfl rfl (sm_f rfl) ?_
  refine Go_st rfl rfl ?_
  refine Go_call rfl (rm_X9_isStreet c d) (chkV rfl rfl rfl rfl rfl rfl) ?_
  refine Go_st rfl rfl ?_
  refine Go_ifF (by decide +kernel) ?_
  refine Go_st rfl rfl ?_
  exact Go_ret rfl ⟨_, rfl, rfl⟩
set_option maxRecDepth 20000 in
set_option maxHeartbeats 4000000 in
theorem rx_X8_code_v (d : Nat) (a1 : Int32) : pm_Rt pm_P (d + 3) 29 (hp0) [.ref 0, .int a1] (hp0) (some (.int (-2))) := by
  refine Rt_of aiX8_code (Nat.le_of_ble_eq_true rfl) ?_
  refine Go_st rfl rfl ?_
  refine Go_st rfl rfl ?_
  refine Go_call rfl (rx_X8_hasStreet (d + 1)) (chkV rfl rfl rfl rfl rfl rfl) ?_
  refine Go_st rfl rfl ?_
  refine Go_ifT (by decide +kernel) ?_
  refine Go_st rfl rfl ?_
  refine Go_call rfl (rx_X8_hangTree_0 d) (chkV rfl rfl rfl rfl rfl rfl) ?_
  refine Go_st rfl rfl ?_
  refine Go_st rfl rfl ?_
  refine Go_st rfl rfl ?_
  refine Go_ifF (by decide +kernel) ?_
  refine Go_st rfl rfl ?_
  exact Go_ret rfl ⟨_, rfl, rfl⟩
set_option maxRecDepth 20000 in
set_option maxHeartbeats 4000000 in
theorem rm_X9_code_v (c : Nat → pm_E) (d : Nat) (a1 : Int32) : pm_Rt pm_P (d + 2) 131 (hpm c) [.ref 77, .int a1] (hpm c) (some (.int (-2))) := by
  refine Rt_of aiX9_code (Nat.le_of_ble_eq_true rfl) ?_
  refine Go_st rfl rfl ?_
  refine Go_st rfl rfl ?_
  refine Go_sm rfl rfl (sm_f rfl) ?_
  refine Go_st rfl rfl ?_
  refine Go_call rfl (rm_X9_isStreet c d) (chkV rfl rfl rfl rfl rfl rfl) ?_
  refine Go_st rfl rfl ?_
  refine Go_ifT (by decide +kernel) ?_
  refine Go_st rfl rfl ?_
  exact Go_ret rfl ⟨_, rfl, rfl⟩
set_option maxRecDepth 20000 in
set_option maxHeartbeats 4000000 in
theorem rx_X8_searchTree_0 (d : Nat)  : pm_Rt pm_P (d + 2) 89 (hp0) [.ref 0, .int 0] (hp0) (some (.int (-2))) := by
  refine Rt_of aiX8_searchTree (Nat.le_of_ble_eq_true rfl) ?_
  refine Go_st rfl rfl ?_
  refine Go_st rfl rfl ?_
  refine Go_call rfl (rx_X8_rowRefusal_0 d) (chkV rfl rfl rfl rfl rfl rfl) ?_
  refine Go_st rfl rfl ?_
  refine Go_st rfl rfl ?_
  refine Go_st rfl rfl ?_
  refine Go_ifT (by decide +kernel) ?_
  refine Go_st rfl rfl ?_
  exact Go_ret rfl ⟨_, rfl, rfl⟩
set_option maxRecDepth 20000 in
set_option maxHeartbeats 4000000 in
theorem rx_X8_burnt_v (d : Nat) (a1 : Int32) : pm_Rt pm_P (d + 3) 24 (hp0) [.ref 0, .int a1] (hp0) (some (.int (-2))) := by
  refine Rt_of aiX8_burnt (Nat.le_of_ble_eq_true rfl) ?_
  refine Go_st rfl rfl ?_
  refine Go_st rfl rfl ?_
  refine Go_st rfl rfl ?_
  refine Go_call rfl (rx_X8_hasCar (d + 1) _) (chkV rfl rfl rfl rfl rfl rfl) ?_
  refine Go_call rfl (rx_X8_searchTree_0 d) (chkV rfl rfl rfl rfl rfl rfl) ?_
  refine Go_st rfl rfl ?_
  refine Go_st rfl rfl ?_
  refine Go_st rfl rfl ?_
  refine Go_ifF (by decide +kernel) ?_
  refine Go_st rfl rfl ?_
  refine Go_st rfl rfl ?_
  exact Go_ret rfl ⟨_, rfl, rfl⟩
set_option maxRecDepth 20000 in
set_option maxHeartbeats 4000000 in
theorem rm_X9_burnt_v (c : Nat → pm_E) (d : Nat) (a1 : Int32) : pm_Rt pm_P (d + 3) 124 (hpm c) [.ref 77, .int a1] (hpm c) (some (.int (-2))) := by
  refine Rt_of aiX9_burnt (Nat.le_of_ble_eq_true rfl) ?_
  refine Go_st rfl rfl ?_
  refine Go_st rfl rfl ?_
  refine Go_sm rfl rfl (sm_f rfl) ?_
  refine Go_st rfl rfl ?_
  refine Go_st rfl rfl ?_
  refine Go_st rfl rfl ?_
  refine Go_call rfl (rm_X9_isCar_v c d _) (chkV rfl rfl rfl rfl rfl rfl) ?_
  refine Go_st rfl rfl ?_
  refine Go_ifF (by decide +kernel) ?_
  refine Go_st rfl rfl ?_
  exact Go_ret rfl ⟨_, rfl, rfl⟩
set_option maxRecDepth 20000 in
set_option maxHeartbeats 4000000 in
theorem rx_X8_turned (d : Nat)  : pm_Rt pm_P (d + 3) 103 (hp0) [.ref 0] (hp0) (some (.int (-2))) := by
  refine Rt_of aiX8_turned (Nat.le_of_ble_eq_true rfl) ?_
  refine Go_st rfl rfl ?_
  refine Go_st rfl rfl ?_
  refine Go_call rfl (rx_X8_hasStreet (d + 1)) (chkV rfl rfl rfl rfl rfl rfl) ?_
  refine Go_call rfl (rx_X8_searchTree_0 d) (chkV rfl rfl rfl rfl rfl rfl) ?_
  refine Go_st rfl rfl ?_
  refine Go_st rfl rfl ?_
  refine Go_st rfl rfl ?_
  refine Go_ifF (by decide +kernel) ?_
  refine Go_st rfl rfl ?_
  refine Go_st rfl rfl ?_
  exact Go_ret rfl ⟨_, rfl, rfl⟩
set_option maxRecDepth 20000 in
set_option maxHeartbeats 4000000 in
theorem rm_X9_turned (c : Nat → pm_E) (d : Nat)  : pm_Rt pm_P (d + 2) 209 (hpm c) [.ref 77] (hpm c) (some (.int (-2))) := by
  refine Rt_of aiX9_turned (Nat.le_of_ble_eq_true rfl) ?_
  refine Go_st rfl rfl ?_
  refine Go_st rfl rfl ?_
  refine Go_sm rfl rfl (sm_f rfl) ?_
  refine Go_st rfl rfl ?_
  refine Go_call rfl (rm_X9_isStreet c d) (chkV rfl rfl rfl rfl rfl rfl) ?_
  refine Go_st rfl rfl ?_
  refine Go_ifF (by decide +kernel) ?_
  refine Go_st rfl rfl ?_
  exact Go_ret rfl ⟨_, rfl, rfl⟩
set_option maxRecDepth 20000 in
set_option maxHeartbeats 4000000 in
theorem rx_X8_visit_v (d : Nat) (a1 : Int32) : pm_Rt pm_P (d + 3) 106 (hp0) [.ref 0, .int a1] (hp0) (some (.int (-2))) := by
  refine Rt_of aiX8_visit (Nat.le_of_ble_eq_true rfl) ?_
  refine Go_st rfl rfl ?_
  refine Go_st rfl rfl ?_
  refine Go_call rfl (rx_X8_hasStreet (d + 1)) (chkV rfl rfl rfl rfl rfl rfl) ?_
  refine Go_st rfl rfl ?_
  refine Go_ifT (by decide +kernel) ?_
  refine Go_st rfl rfl ?_
  refine Go_call rfl (rx_X8_searchTree_0 d) (chkV rfl rfl rfl rfl rfl rfl) ?_
  refine Go_st rfl rfl ?_
  refine Go_st rfl rfl ?_
  refine Go_st rfl rfl ?_
  refine Go_ifF (by decide +kernel) ?_
  refine Go_st rfl rfl ?_
  refine Go_st rfl rfl ?_
  exact Go_ret rfl ⟨_, rfl, rfl⟩
set_option maxRecDepth 20000 in
set_option maxHeartbeats 4000000 in
theorem rm_X9_visit_v (c : Nat → pm_E) (d : Nat) (a1 : Int32) : pm_Rt pm_P (d + 3) 212 (hpm c) [.ref 77, .int a1] (hpm c) (some (.int (-2))) := by
  refine Rt_of aiX9_visit (Nat.le_of_ble_eq_true rfl) ?_
  refine Go_st rfl rfl ?_
  refine Go_st rfl rfl ?_
  refine Go_sm rfl rfl (sm_f rfl) ?_
  refine Go_st rfl rfl ?_
  refine Go_st rfl rfl ?_
  refine Go_call rfl (rm_X9_isNode_v c d _) (chkV rfl rfl rfl rfl rfl rfl) ?_
  refine Go_st rfl rfl ?_
  refine Go_ifF (by decide +kernel) ?_
  refine Go_st rfl rfl ?_
  exact Go_ret rfl ⟨_, rfl, rfl⟩
set_option maxRecDepth 20000 in
set_option maxHeartbeats 4000000 in
theorem rx_X8_readCode_v_0 (d : Nat) (a1 : Int32) : pm_Rt pm_P (d + 2) 79 (hp0) [.ref 0, .int a1, .int 0] (hp0) (some (.int (-2))) := by
  refine Rt_of aiX8_readCode (Nat.le_of_ble_eq_true rfl) ?_
  refine Go_st rfl rfl ?_
  obtain ⟨rr, hrr, hcc⟩ := rx_isSlot (hp0) d a1
  rcases hrr with rfl | rfl
  · refine Go_call rfl hcc (chkS rfl rfl rfl rfl) ?_
    refine Go_st rfl rfl ?_
    refine Go_ifT (by decide +kernel) ?_
    refine Go_st rfl rfl ?_
    exact Go_ret rfl ⟨_, rfl, rfl⟩
  · refine Go_call rfl hcc (chkS rfl rfl rfl rfl) ?_
    refine Go_st rfl rfl ?_
    refine Go_ifF (by decide +kernel) ?_
    refine Go_st rfl rfl ?_
    refine Go_st rfl rfl ?_
    refine Go_ifF (by decide +kernel) ?_
    refine Go_st rfl rfl ?_
    exact Go_ret rfl ⟨_, rfl, rfl⟩
set_option maxRecDepth 20000 in
set_option maxHeartbeats 4000000 in
theorem rx_X8_above_v_v (d : Nat) (a1 : Int32) (a2 : Int32) : pm_Rt pm_P (d + 3) 14 (hp0) [.ref 0, .int a1, .int a2] (hp0) (some (.int (-2))) := by
  refine Rt_of aiX8_above (Nat.le_of_ble_eq_true rfl) ?_
  refine Go_st rfl rfl ?_
  refine Go_st rfl rfl ?_
  refine Go_st rfl rfl ?_
  refine Go_st rfl rfl ?_
  refine Go_call rfl (rx_X8_isTreeCar (d + 1) _) (chkV rfl rfl rfl rfl rfl rfl) ?_
  refine Go_call rfl (rx_X8_readCode_v_0 d _) (chkV rfl rfl rfl rfl rfl rfl) ?_
  refine Go_st rfl rfl ?_
  refine Go_st rfl rfl ?_
  refine Go_st rfl rfl ?_
  refine Go_ifF (by decide +kernel) ?_
  refine Go_st rfl rfl ?_
  refine Go_st rfl rfl ?_
  exact Go_ret rfl ⟨_, rfl, rfl⟩
set_option maxRecDepth 20000 in
set_option maxHeartbeats 4000000 in
theorem rm_X9_places (c : Nat → pm_E) (d : Nat)  : pm_Rt pm_P (d + 1) 186 (hpm c) [.ref 77] (hpm c) (some (.int 0)) := by
  refine Rt_of aiX9_places (Nat.le_of_ble_eq_true rfl) ?_
  refine Go_st rfl rfl ?_
  refine Go_st rfl rfl ?_
  refine Go_st rfl rfl ?_
  refine Go_iald (v := 0) rfl rfl (by decide +kernel) (by decide +kernel) ?_
  exact Go_ret rfl ⟨_, rfl, rfl⟩
set_option maxRecDepth 20000 in
set_option maxHeartbeats 4000000 in
theorem rm_X9_whyNotCode_v_0 (c : Nat → pm_E) (d : Nat) (a1 : Int32) : pm_Rt pm_P (d + 3) 215 (hpm c) [.ref 77, .int a1, .int 0] (hpm c) (some (.int (-2))) := by
  refine Rt_of aiX9_whyNotCode (Nat.le_of_ble_eq_true rfl) ?_
  refine Go_st rfl rfl ?_
  obtain ⟨rr, hrr, hcc⟩ := rm_isSlot (hpm c) d a1
  rcases hrr with rfl | rfl
  · refine Go_call rfl hcc (chkS rfl rfl rfl rfl) ?_
    refine Go_st rfl rfl ?_
    refine Go_ifT (by decide +kernel) ?_
    refine Go_st rfl rfl ?_
    exact Go_ret rfl ⟨_, rfl, rfl⟩
  · refine Go_call rfl hcc (chkS rfl rfl rfl rfl) ?_
    refine Go_st rfl rfl ?_
    refine Go_ifF (by decide +kernel) ?_
    refine Go_st rfl rfl ?_
    refine Go_call rfl (rm_X9_isStreet c (d + 1)) (chkV rfl rfl rfl rfl rfl rfl) ?_
    refine Go_st rfl rfl ?_
    refine Go_ifT (by decide +kernel) ?_
    refine Go_st rfl rfl ?_
    exact Go_ret rfl ⟨_, rfl, rfl⟩
set_option maxRecDepth 20000 in
set_option maxHeartbeats 4000000 in
theorem rm_X9_above_v_v (c : Nat → pm_E) (d : Nat) (a1 : Int32) (a2 : Int32) : pm_Rt pm_P (d + 4) 112 (hpm c) [.ref 77, .int a1, .int a2] (hpm c) (some (.int (-2))) := by
  refine Rt_of aiX9_above (Nat.le_of_ble_eq_true rfl) ?_
  refine Go_st rfl rfl ?_
  refine Go_st rfl rfl ?_
  refine Go_sm rfl rfl (sm_f rfl) ?_
  refine Go_st rfl rfl ?_
  refine Go_st rfl rfl ?_
  refine Go_st rfl rfl ?_
  refine Go_st rfl rfl ?_
  refine Go_st rfl rfl ?_
  refine Go_st rfl rfl ?_
  refine Go_call rfl (rm_X9_places c (d + 2)) (chkV rfl rfl rfl rfl rfl rfl) ?_
  refine Go_st rfl rfl ?_
  refine Go_st rfl rfl ?_
  refine Go_st rfl rfl ?_
  refine Go_call rfl (rm_in0 _ (d + 2) _ _ _ (pm_no (by decide +kernel))) (chkS rfl rfl rfl rfl) ?_
  refine Go_call rfl (rm_X9_whyNotCode_v_0 c d _) (chkV rfl rfl rfl rfl rfl rfl) ?_
  refine Go_st rfl rfl ?_
  refine Go_st rfl rfl ?_
  refine Go_st rfl rfl ?_
  refine Go_ifF (by decide +kernel) ?_
  refine Go_st rfl rfl ?_
  exact Go_ret rfl ⟨_, rfl, rfl⟩
set_option maxRecDepth 20000 in
set_option maxHeartbeats 4000000 in
theorem rx_X8_wish_v_v (d : Nat) (a1 : Int32) (a2 : Int32) : pm_Rt pm_P (d + 3) 108 (hp0) [.ref 0, .int a1, .int a2] (hp0) (some (.int (-2))) := by
  refine Rt_of aiX8_wish (Nat.le_of_ble_eq_true rfl) ?_
  refine Go_st rfl rfl ?_
  refine Go_st rfl rfl ?_
  refine Go_st rfl rfl ?_
  refine Go_st rfl rfl ?_
  refine Go_call rfl (rx_X8_isTreeCar (d + 1) _) (chkV rfl rfl rfl rfl rfl rfl) ?_
  refine Go_call rfl (rx_X8_readCode_v_0 d _) (chkV rfl rfl rfl rfl rfl rfl) ?_
  refine Go_st rfl rfl ?_
  refine Go_st rfl rfl ?_
  refine Go_st rfl rfl ?_
  refine Go_ifF (by decide +kernel) ?_
  refine Go_st rfl rfl ?_
  refine Go_st rfl rfl ?_
  exact Go_ret rfl ⟨_, rfl, rfl⟩
set_option maxRecDepth 20000 in
set_option maxHeartbeats 4000000 in
theorem rm_X9_wish_v_v (c : Nat → pm_E) (d : Nat) (a1 : Int32) (a2 : Int32) : pm_Rt pm_P (d + 4) 216 (hpm c) [.ref 77, .int a1, .int a2] (hpm c) (some (.int (-2))) := by
  refine Rt_of aiX9_wish (Nat.le_of_ble_eq_true rfl) ?_
  refine Go_st rfl rfl ?_
  refine Go_st rfl rfl ?_
  refine Go_sm rfl rfl (sm_f rfl) ?_
  refine Go_st rfl rfl ?_
  refine Go_st rfl rfl ?_
  refine Go_st rfl rfl ?_
  refine Go_st rfl rfl ?_
  refine Go_st rfl rfl ?_
  refine Go_st rfl rfl ?_
  refine Go_call rfl (rm_X9_places c (d + 2)) (chkV rfl rfl rfl rfl rfl rfl) ?_
  refine Go_st rfl rfl ?_
  refine Go_st rfl rfl ?_
  refine Go_st rfl rfl ?_
  refine Go_call rfl (rm_in0 _ (d + 2) _ _ _ (pm_no (by decide +kernel))) (chkS rfl rfl rfl rfl) ?_
  refine Go_call rfl (rm_X9_whyNotCode_v_0 c d _) (chkV rfl rfl rfl rfl rfl rfl) ?_
  refine Go_st rfl rfl ?_
  refine Go_st rfl rfl ?_
  refine Go_st rfl rfl ?_
  refine Go_ifF (by decide +kernel) ?_
  refine Go_st rfl rfl ?_
  exact Go_ret rfl ⟨_, rfl, rfl⟩
set_option maxRecDepth 20000 in
set_option maxHeartbeats 4000000 in
theorem rx_X8_regain_v_v (d : Nat) (a1 : Int32) (a2 : Int32) : pm_Rt pm_P (d + 3) 80 (hp0) [.ref 0, .int a1, .int a2] (hp0) (some (.int (-2))) := by
  refine Rt_of aiX8_regain (Nat.le_of_ble_eq_true rfl) ?_
  refine Go_st rfl rfl ?_
  refine Go_st rfl rfl ?_
  refine Go_st rfl rfl ?_
  refine Go_st rfl rfl ?_
  refine Go_call rfl (rx_X8_isTreeCar (d + 1) _) (chkV rfl rfl rfl rfl rfl rfl) ?_
  refine Go_call rfl (rx_X8_readCode_v_0 d _) (chkV rfl rfl rfl rfl rfl rfl) ?_
  refine Go_st rfl rfl ?_
  refine Go_st rfl rfl ?_
  refine Go_st rfl rfl ?_
  refine Go_ifF (by decide +kernel) ?_
  refine Go_st rfl rfl ?_
  exact Go_ret rfl ⟨_, rfl, rfl⟩
set_option maxRecDepth 20000 in
set_option maxHeartbeats 4000000 in
theorem rm_X9_regain_v_v (c : Nat → pm_E) (d : Nat) (a1 : Int32) (a2 : Int32) : pm_Rt pm_P (d + 4) 190 (hpm c) [.ref 77, .int a1, .int a2] (hpm c) (some (.int (-2))) := by
  refine Rt_of aiX9_regain (Nat.le_of_ble_eq_true rfl) ?_
  refine Go_st rfl rfl ?_
  refine Go_st rfl rfl ?_
  refine Go_sm rfl rfl (sm_f rfl) ?_
  refine Go_st rfl rfl ?_
  refine Go_st rfl rfl ?_
  refine Go_st rfl rfl ?_
  refine Go_st rfl rfl ?_
  refine Go_st rfl rfl ?_
  refine Go_st rfl rfl ?_
  refine Go_call rfl (rm_X9_places c (d + 2)) (chkV rfl rfl rfl rfl rfl rfl) ?_
  refine Go_st rfl rfl ?_
  refine Go_st rfl rfl ?_
  refine Go_st rfl rfl ?_
  refine Go_call rfl (rm_in0 _ (d + 2) _ _ _ (pm_no (by decide +kernel))) (chkS rfl rfl rfl rfl) ?_
  refine Go_call rfl (rm_X9_whyNotCode_v_0 c d _) (chkV rfl rfl rfl rfl rfl rfl) ?_
  refine Go_st rfl rfl ?_
  refine Go_st rfl rfl ?_
  refine Go_st rfl rfl ?_
  refine Go_ifF (by decide +kernel) ?_
  refine Go_st rfl rfl ?_
  exact Go_ret rfl ⟨_, rfl, rfl⟩
set_option maxRecDepth 20000 in
set_option maxHeartbeats 4000000 in
theorem rx_X8_upset_v (d : Nat) (a1 : Int32) : pm_Rt pm_P (d + 3) 105 (hp0) [.ref 0, .int a1] (hp0) (some (.int (-2))) := by
  refine Rt_of aiX8_upset (Nat.le_of_ble_eq_true rfl) ?_
  refine Go_st rfl rfl ?_
  refine Go_st rfl rfl ?_
  refine Go_st rfl rfl ?_
  refine Go_call rfl (rx_X8_hasStreet (d + 1)) (chkV rfl rfl rfl rfl rfl rfl) ?_
  refine Go_call rfl (rx_X8_readCode_v_0 d _) (chkV rfl rfl rfl rfl rfl rfl) ?_
  refine Go_st rfl rfl ?_
  refine Go_st rfl rfl ?_
  refine Go_st rfl rfl ?_
  refine Go_ifF (by decide +kernel) ?_
  refine Go_st rfl rfl ?_
  refine Go_st rfl rfl ?_
  exact Go_ret rfl ⟨_, rfl, rfl⟩
set_option maxRecDepth 20000 in
set_option maxHeartbeats 4000000 in
theorem rm_X9_whyNotCode_v_1 (c : Nat → pm_E) (d : Nat) (a1 : Int32) : pm_Rt pm_P (d + 3) 215 (hpm c) [.ref 77, .int a1, .int 1] (hpm c) (some (.int (-2))) := by
  refine Rt_of aiX9_whyNotCode (Nat.le_of_ble_eq_true rfl) ?_
  refine Go_st rfl rfl ?_
  obtain ⟨rr, hrr, hcc⟩ := rm_isSlot (hpm c) d a1
  rcases hrr with rfl | rfl
  · refine Go_call rfl hcc (chkS rfl rfl rfl rfl) ?_
    refine Go_st rfl rfl ?_
    refine Go_ifT (by decide +kernel) ?_
    refine Go_st rfl rfl ?_
    exact Go_ret rfl ⟨_, rfl, rfl⟩
  · refine Go_call rfl hcc (chkS rfl rfl rfl rfl) ?_
    refine Go_st rfl rfl ?_
    refine Go_ifF (by decide +kernel) ?_
    refine Go_st rfl rfl ?_
    refine Go_call rfl (rm_X9_isStreet c (d + 1)) (chkV rfl rfl rfl rfl rfl rfl) ?_
    refine Go_st rfl rfl ?_
    refine Go_ifT (by decide +kernel) ?_
    refine Go_st rfl rfl ?_
    exact Go_ret rfl ⟨_, rfl, rfl⟩
set_option maxRecDepth 20000 in
set_option maxHeartbeats 4000000 in
theorem rm_X9_upset_v (c : Nat → pm_E) (d : Nat) (a1 : Int32) : pm_Rt pm_P (d + 4) 211 (hpm c) [.ref 77, .int a1] (hpm c) (some (.int (-2))) := by
  refine Rt_of aiX9_upset (Nat.le_of_ble_eq_true rfl) ?_
  refine Go_st rfl rfl ?_
  refine Go_st rfl rfl ?_
  refine Go_sm rfl rfl (sm_f rfl) ?_
  refine Go_st rfl rfl ?_
  refine Go_st rfl rfl ?_
  refine Go_st rfl rfl ?_
  refine Go_call rfl (rm_X9_whyNotCode_v_1 c d _) (chkV rfl rfl rfl rfl rfl rfl) ?_
  refine Go_st rfl rfl ?_
  refine Go_st rfl rfl ?_
  refine Go_st rfl rfl ?_
  refine Go_ifF (by decide +kernel) ?_
  refine Go_st rfl rfl ?_
  exact Go_ret rfl ⟨_, rfl, rfl⟩
set_option maxRecDepth 20000 in
set_option maxHeartbeats 4000000 in
theorem rx_X8_isTallied_v (d : Nat) (a1 : Int32) : pm_Rt pm_P (d + 2) 54 (hp0) [.ref 0, .int a1] (hp0) (some (.int 0)) := by
  refine Rt_of aiX8_isTallied (Nat.le_of_ble_eq_true rfl) ?_
  refine Go_st rfl rfl ?_
  refine Go_call rfl (rx_X8_hasStreet d) (chkV rfl rfl rfl rfl rfl rfl) ?_
  refine Go_st rfl rfl ?_
  refine Go_ifT (by decide +kernel) ?_
  refine Go_st rfl rfl ?_
  exact Go_ret rfl ⟨_, rfl, by decide, rfl⟩
set_option maxRecDepth 20000 in
set_option maxHeartbeats 4000000 in
theorem rx_X8_rows_v (d : Nat) (a1 : Int32) : pm_Rt pm_P (d + 3) 87 (hp0) [.ref 0, .int a1] (hp0) (some (.int (-2))) := by
  refine Rt_of aiX8_rows (Nat.le_of_ble_eq_true rfl) ?_
  refine Go_st rfl rfl ?_
  refine Go_st rfl rfl ?_
  refine Go_call rfl (rx_X8_isTallied_v d _) (chkV rfl rfl rfl rfl rfl rfl) ?_
  refine Go_st rfl rfl ?_
  refine Go_ifT (by decide +kernel) ?_
  refine Go_st rfl rfl ?_
  exact Go_ret rfl ⟨_, rfl, rfl⟩
set_option maxRecDepth 20000 in
set_option maxHeartbeats 4000000 in
theorem rm_X9_isSmall_v (c : Nat → pm_E) (d : Nat) (a1 : Int32) : pm_Rt pm_P (d + 2) 164 (hpm c) [.ref 77, .int a1] (hpm c) (some (.int 0)) := by
  refine Rt_of aiX9_isSmall (Nat.le_of_ble_eq_true rfl) ?_
  refine Go_st rfl rfl ?_
  refine Go_call rfl (rm_X9_isStreet c d) (chkV rfl rfl rfl rfl rfl rfl) ?_
  refine Go_st rfl rfl ?_
  refine Go_ifT (by decide +kernel) ?_
  refine Go_st rfl rfl ?_
  exact Go_ret rfl ⟨_, rfl, by decide, rfl⟩
set_option maxRecDepth 20000 in
set_option maxHeartbeats 4000000 in
theorem rm_X9_rows_v (c : Nat → pm_E) (d : Nat) (a1 : Int32) : pm_Rt pm_P (d + 3) 196 (hpm c) [.ref 77, .int a1] (hpm c) (some (.int (-2))) := by
  refine Rt_of aiX9_rows (Nat.le_of_ble_eq_true rfl) ?_
  refine Go_st rfl rfl ?_
  refine Go_st rfl rfl ?_
  refine Go_sm rfl rfl (sm_f rfl) ?_
  refine Go_st rfl rfl ?_
  refine Go_st rfl rfl ?_
  refine Go_call rfl (rm_X9_isSmall_v c d _) (chkV rfl rfl rfl rfl rfl rfl) ?_
  refine Go_st rfl rfl ?_
  refine Go_ifT (by decide +kernel) ?_
  refine Go_st rfl rfl ?_
  exact Go_ret rfl ⟨_, rfl, rfl⟩
set_option maxRecDepth 20000 in
set_option maxHeartbeats 4000000 in
theorem rx_X8_tally_v_v (d : Nat) (a1 : Int32) (a2 : Int32) : pm_Rt pm_P (d + 3) 100 (hp0) [.ref 0, .int a1, .int a2] (hp0) (some (.int (-2))) := by
  refine Rt_of aiX8_tally (Nat.le_of_ble_eq_true rfl) ?_
  refine Go_st rfl rfl ?_
  refine Go_st rfl rfl ?_
  refine Go_call rfl (rx_X8_isTallied_v d _) (chkV rfl rfl rfl rfl rfl rfl) ?_
  refine Go_st rfl rfl ?_
  refine Go_ifT (by decide +kernel) ?_
  refine Go_st rfl rfl ?_
  exact Go_ret rfl ⟨_, rfl, rfl⟩
set_option maxRecDepth 20000 in
set_option maxHeartbeats 4000000 in
theorem rx_X8_moved_v_v (d : Nat) (a1 : Int32) (a2 : Int32) : pm_Rt pm_P (d + 4) 71 (hp0) [.ref 0, .int a1, .int a2] (hp0) (some (.int (-2))) := by
  refine Rt_of aiX8_moved (Nat.le_of_ble_eq_true rfl) ?_
  refine Go_st rfl rfl ?_
  refine Go_st rfl rfl ?_
  refine Go_st rfl rfl ?_
  refine Go_call rfl (rx_X8_tally_v_v d _ _) (chkV rfl rfl rfl rfl rfl rfl) ?_
  exact Go_ret rfl ⟨_, rfl, rfl⟩
set_option maxRecDepth 20000 in
set_option maxHeartbeats 4000000 in
theorem rm_X9_moved_v_v (c : Nat → pm_E) (d : Nat) (a1 : Int32) (a2 : Int32) : pm_Rt pm_P (d + 3) 181 (hpm c) [.ref 77, .int a1, .int a2] (hpm c) (some (.int (-2))) := by
  refine Rt_of aiX9_moved (Nat.le_of_ble_eq_true rfl) ?_
  refine Go_st rfl rfl ?_
  refine Go_st rfl rfl ?_
  refine Go_sm rfl rfl (sm_f rfl) ?_
  refine Go_st rfl rfl ?_
  refine Go_st rfl rfl ?_
  refine Go_call rfl (rm_X9_isSmall_v c d _) (chkV rfl rfl rfl rfl rfl rfl) ?_
  refine Go_st rfl rfl ?_
  refine Go_ifT (by decide +kernel) ?_
  refine Go_st rfl rfl ?_
  exact Go_ret rfl ⟨_, rfl, rfl⟩
set_option maxRecDepth 20000 in
set_option maxHeartbeats 4000000 in
theorem rx_X8_trees_v_v (d : Nat) (a1 : Int32) (a2 : Int32) : pm_Rt pm_P (d + 4) 102 (hp0) [.ref 0, .int a1, .int a2] (hp0) (some (.int (-2))) := by
  refine Rt_of aiX8_trees (Nat.le_of_ble_eq_true rfl) ?_
  refine Go_st rfl rfl ?_
  refine Go_st rfl rfl ?_
  refine Go_st rfl rfl ?_
  refine Go_call rfl (rx_X8_tally_v_v d _ _) (chkV rfl rfl rfl rfl rfl rfl) ?_
  exact Go_ret rfl ⟨_, rfl, rfl⟩
set_option maxRecDepth 20000 in
set_option maxHeartbeats 4000000 in
theorem rm_X9_trees_v_v (c : Nat → pm_E) (d : Nat) (a1 : Int32) (a2 : Int32) : pm_Rt pm_P (d + 3) 208 (hpm c) [.ref 77, .int a1, .int a2] (hpm c) (some (.int (-2))) := by
  refine Rt_of aiX9_trees (Nat.le_of_ble_eq_true rfl) ?_
  refine Go_st rfl rfl ?_
  refine Go_st rfl rfl ?_
  refine Go_sm rfl rfl (sm_f rfl) ?_
  refine Go_st rfl rfl ?_
  refine Go_st rfl rfl ?_
  refine Go_call rfl (rm_X9_isSmall_v c d _) (chkV rfl rfl rfl rfl rfl rfl) ?_
  refine Go_st rfl rfl ?_
  refine Go_ifT (by decide +kernel) ?_
  refine Go_st rfl rfl ?_
  exact Go_ret rfl ⟨_, rfl, rfl⟩
set_option maxRecDepth 20000 in
set_option maxHeartbeats 4000000 in
theorem rx_X8_ends_v_v (d : Nat) (a1 : Int32) (a2 : Int32) : pm_Rt pm_P (d + 3) 34 (hp0) [.ref 0, .int a1, .int a2] (hp0) (some (.int (-2))) := by
  refine Rt_of aiX8_ends (Nat.le_of_ble_eq_true rfl) ?_
  refine Go_st rfl rfl ?_
  refine Go_st rfl rfl ?_
  refine Go_call rfl (rx_X8_isTallied_v d _) (chkV rfl rfl rfl rfl rfl rfl) ?_
  refine Go_st rfl rfl ?_
  refine Go_ifT (by decide +kernel) ?_
  refine Go_st rfl rfl ?_
  exact Go_ret rfl ⟨_, rfl, rfl⟩
set_option maxRecDepth 20000 in
set_option maxHeartbeats 4000000 in
theorem rm_X9_ends_v_v (c : Nat → pm_E) (d : Nat) (a1 : Int32) (a2 : Int32) : pm_Rt pm_P (d + 3) 138 (hpm c) [.ref 77, .int a1, .int a2] (hpm c) (some (.int (-2))) := by
  refine Rt_of aiX9_ends (Nat.le_of_ble_eq_true rfl) ?_
  refine Go_st rfl rfl ?_
  refine Go_st rfl rfl ?_
  refine Go_sm rfl rfl (sm_f rfl) ?_
  refine Go_st rfl rfl ?_
  refine Go_st rfl rfl ?_
  refine Go_call rfl (rm_X9_isSmall_v c d _) (chkV rfl rfl rfl rfl rfl rfl) ?_
  refine Go_st rfl rfl ?_
  refine Go_ifT (by decide +kernel) ?_
  refine Go_st rfl rfl ?_
  exact Go_ret rfl ⟨_, rfl, rfl⟩
set_option maxRecDepth 20000 in
set_option maxHeartbeats 4000000 in
theorem rm_X9_isJoin_v (c : Nat → pm_E) (d : Nat) (a1 : Int32) : pm_Rt pm_P (d + 2) 157 (hpm c) [.ref 77, .int a1] (hpm c) (some (.int 0)) := by
  refine Rt_of aiX9_isJoin (Nat.le_of_ble_eq_true rfl) ?_
  refine Go_st rfl rfl ?_
  refine Go_st rfl rfl ?_
  refine Go_st rfl rfl ?_
  refine Go_st rfl rfl ?_
  refine Go_st rfl rfl ?_
  refine Go_st rfl rfl ?_
  refine Go_iald (v := 0) rfl rfl (by decide +kernel) (by decide +kernel) ?_
  refine Go_st rfl rfl ?_
  refine Go_st rfl rfl ?_
  refine Go_st rfl rfl ?_
  refine Go_call rfl (rm_in0 _ d _ _ _ (pm_no (by decide +kernel))) (chkS rfl rfl rfl rfl) ?_
  exact Go_ret rfl ⟨_, rfl, by decide, rfl⟩
set_option maxRecDepth 20000 in
set_option maxHeartbeats 4000000 in
theorem rm_X9_label_v (c : Nat → pm_E) (d : Nat) (a1 : Int32) : pm_Rt pm_P (d + 3) 167 (hpm c) [.ref 77, .int a1] (hpm c) (some (.int (-2))) := by
  refine Rt_of aiX9_label (Nat.le_of_ble_eq_true rfl) ?_
  refine Go_st rfl rfl ?_
  refine Go_st rfl rfl ?_
  refine Go_sm rfl rfl (sm_f rfl) ?_
  refine Go_st rfl rfl ?_
  refine Go_st rfl rfl ?_
  refine Go_call rfl (rm_X9_isJoin_v c d _) (chkV rfl rfl rfl rfl rfl rfl) ?_
  refine Go_st rfl rfl ?_
  refine Go_ifT (by decide +kernel) ?_
  refine Go_st rfl rfl ?_
  exact Go_ret rfl ⟨_, rfl, rfl⟩
set_option maxRecDepth 20000 in
set_option maxHeartbeats 4000000 in
theorem rm_X9_merged_v (c : Nat → pm_E) (d : Nat) (a1 : Int32) : pm_Rt pm_P (d + 3) 180 (hpm c) [.ref 77, .int a1] (hpm c) (some (.int (-2))) := by
  refine Rt_of aiX9_merged (Nat.le_of_ble_eq_true rfl) ?_
  refine Go_st rfl rfl ?_
  refine Go_st rfl rfl ?_
  refine Go_sm rfl rfl (sm_f rfl) ?_
  refine Go_st rfl rfl ?_
  refine Go_st rfl rfl ?_
  refine Go_call rfl (rm_X9_isJoin_v c d _) (chkV rfl rfl rfl rfl rfl rfl) ?_
  refine Go_st rfl rfl ?_
  refine Go_ifF (by decide +kernel) ?_
  refine Go_st rfl rfl ?_
  exact Go_ret rfl ⟨_, rfl, rfl⟩
set_option maxRecDepth 20000 in
set_option maxHeartbeats 4000000 in
theorem rx_X8_blocks (d : Nat)  : pm_Rt pm_P (d + 2) 22 (hp0) [.ref 0] (hp0) (some (.int (-2))) := by
  refine Rt_of aiX8_blocks (Nat.le_of_ble_eq_true rfl) ?_
  refine Go_st rfl rfl ?_
  refine Go_call rfl (rx_X8_hasStreet d) (chkV rfl rfl rfl rfl rfl rfl) ?_
  refine Go_st rfl rfl ?_
  refine Go_ifF (by decide +kernel) ?_
  refine Go_st rfl rfl ?_
  exact Go_ret rfl ⟨_, rfl, rfl⟩
set_option maxRecDepth 20000 in
set_option maxHeartbeats 4000000 in
theorem rm_X9_blocks (c : Nat → pm_E) (d : Nat)  : pm_Rt pm_P (d + 2) 122 (hpm c) [.ref 77] (hpm c) (some (.int (-2))) := by
  refine Rt_of aiX9_blocks (Nat.le_of_ble_eq_true rfl) ?_
  refine Go_st rfl rfl ?_
  refine Go_st rfl rfl ?_
  refine Go_sm rfl rfl (sm_f rfl) ?_
  refine Go_st rfl rfl ?_
  refine Go_call rfl (rm_X9_isStreet c d) (chkV rfl rfl rfl rfl rfl rfl) ?_
  refine Go_st rfl rfl ?_
  refine Go_ifF (by decide +kernel) ?_
  refine Go_st rfl rfl ?_
  exact Go_ret rfl ⟨_, rfl, rfl⟩
set_option maxRecDepth 20000 in
set_option maxHeartbeats 4000000 in
theorem rx_X8_hasNumber_v (d : Nat) (a1 : Int32) : pm_Rt pm_P (d + 2) 44 (hp0) [.ref 0, .int a1] (hp0) (some (.int 0)) := by
  refine Rt_of aiX8_hasNumber (Nat.le_of_ble_eq_true rfl) ?_
  refine Go_st rfl rfl ?_
  refine Go_call rfl (rx_X8_hasStreet d) (chkV rfl rfl rfl rfl rfl rfl) ?_
  refine Go_st rfl rfl ?_
  refine Go_ifT (by decide +kernel) ?_
  refine Go_st rfl rfl ?_
  exact Go_ret rfl ⟨_, rfl, by decide, rfl⟩
set_option maxRecDepth 20000 in
set_option maxHeartbeats 4000000 in
theorem rx_X8_block_v (d : Nat) (a1 : Int32) : pm_Rt pm_P (d + 3) 21 (hp0) [.ref 0, .int a1] (hp0) (some (.int (-2))) := by
  refine Rt_of aiX8_block (Nat.le_of_ble_eq_true rfl) ?_
  refine Go_st rfl rfl ?_
  refine Go_st rfl rfl ?_
  refine Go_call rfl (rx_X8_hasNumber_v d _) (chkV rfl rfl rfl rfl rfl rfl) ?_
  refine Go_st rfl rfl ?_
  refine Go_ifF (by decide +kernel) ?_
  refine Go_st rfl rfl ?_
  exact Go_ret rfl ⟨_, rfl, rfl⟩
set_option maxRecDepth 20000 in
set_option maxHeartbeats 4000000 in
theorem rm_X9_isNumber_v (c : Nat → pm_E) (d : Nat) (a1 : Int32) : pm_Rt pm_P (d + 2) 159 (hpm c) [.ref 77, .int a1] (hpm c) (some (.int 0)) := by
  refine Rt_of aiX9_isNumber (Nat.le_of_ble_eq_true rfl) ?_
  refine Go_st rfl rfl ?_
  refine Go_call rfl (rm_X9_isStreet c d) (chkV rfl rfl rfl rfl rfl rfl) ?_
  refine Go_st rfl rfl ?_
  refine Go_ifT (by decide +kernel) ?_
  refine Go_st rfl rfl ?_
  exact Go_ret rfl ⟨_, rfl, by decide, rfl⟩
set_option maxRecDepth 20000 in
set_option maxHeartbeats 4000000 in
theorem rm_X9_block_v (c : Nat → pm_E) (d : Nat) (a1 : Int32) : pm_Rt pm_P (d + 3) 121 (hpm c) [.ref 77, .int a1] (hpm c) (some (.int (-2))) := by
  refine Rt_of aiX9_block (Nat.le_of_ble_eq_true rfl) ?_
  refine Go_st rfl rfl ?_
  refine Go_st rfl rfl ?_
  refine Go_sm rfl rfl (sm_f rfl) ?_
  refine Go_st rfl rfl ?_
  refine Go_st rfl rfl ?_
  refine Go_call rfl (rm_X9_isNumber_v c d _) (chkV rfl rfl rfl rfl rfl rfl) ?_
  refine Go_st rfl rfl ?_
  refine Go_ifF (by decide +kernel) ?_
  refine Go_st rfl rfl ?_
  exact Go_ret rfl ⟨_, rfl, rfl⟩
set_option maxRecDepth 20000 in
set_option maxHeartbeats 4000000 in
theorem rx_X8_next (d : Nat)  : pm_Rt pm_P (d + 2) 72 (hp0) [.ref 0] (hp0) (some (.int (-2))) := by
  refine Rt_of aiX8_next (Nat.le_of_ble_eq_true rfl) ?_
  refine Go_st rfl rfl ?_
  refine Go_call rfl (rx_X8_hasStreet d) (chkV rfl rfl rfl rfl rfl rfl) ?_
  refine Go_st rfl rfl ?_
  refine Go_ifF (by decide +kernel) ?_
  refine Go_st rfl rfl ?_
  exact Go_ret rfl ⟨_, rfl, rfl⟩
set_option maxRecDepth 20000 in
set_option maxHeartbeats 4000000 in
theorem rm_X9_next (c : Nat → pm_E) (d : Nat)  : pm_Rt pm_P (d + 2) 182 (hpm c) [.ref 77] (hpm c) (some (.int (-2))) := by
  refine Rt_of aiX9_next (Nat.le_of_ble_eq_true rfl) ?_
  refine Go_st rfl rfl ?_
  refine Go_st rfl rfl ?_
  refine Go_sm rfl rfl (sm_f rfl) ?_
  refine Go_st rfl rfl ?_
  refine Go_call rfl (rm_X9_isStreet c d) (chkV rfl rfl rfl rfl rfl rfl) ?_
  refine Go_st rfl rfl ?_
  refine Go_ifF (by decide +kernel) ?_
  refine Go_st rfl rfl ?_
  exact Go_ret rfl ⟨_, rfl, rfl⟩
set_option maxRecDepth 20000 in
set_option maxHeartbeats 4000000 in
theorem rx_X8_may_v_v (d : Nat) (a1 : Int32) (a2 : Int32) : pm_Rt pm_P (d + 3) 67 (hp0) [.ref 0, .int a1, .int a2] (hp0) (some (.int (-2))) := by
  refine Rt_of aiX8_may (Nat.le_of_ble_eq_true rfl) ?_
  refine Go_st rfl rfl ?_
  refine Go_st rfl rfl ?_
  refine Go_call rfl (rx_X8_hasNumber_v d _) (chkV rfl rfl rfl rfl rfl rfl) ?_
  refine Go_st rfl rfl ?_
  refine Go_ifT (by decide +kernel) ?_
  refine Go_st rfl rfl ?_
  exact Go_ret rfl ⟨_, rfl, rfl⟩
set_option maxRecDepth 20000 in
set_option maxHeartbeats 4000000 in
theorem rm_X9_may_v_v (c : Nat → pm_E) (d : Nat) (a1 : Int32) (a2 : Int32) : pm_Rt pm_P (d + 3) 177 (hpm c) [.ref 77, .int a1, .int a2] (hpm c) (some (.int (-2))) := by
  refine Rt_of aiX9_may (Nat.le_of_ble_eq_true rfl) ?_
  refine Go_st rfl rfl ?_
  refine Go_st rfl rfl ?_
  refine Go_sm rfl rfl (sm_f rfl) ?_
  refine Go_st rfl rfl ?_
  refine Go_st rfl rfl ?_
  refine Go_call rfl (rm_X9_isNumber_v c d _) (chkV rfl rfl rfl rfl rfl rfl) ?_
  refine Go_st rfl rfl ?_
  refine Go_ifT (by decide +kernel) ?_
  refine Go_st rfl rfl ?_
  exact Go_ret rfl ⟨_, rfl, rfl⟩
set_option maxRecDepth 20000 in
set_option maxHeartbeats 4000000 in
theorem rx_X8_labels_v_v (d : Nat) (a1 : Int32) (a2 : Int32) : pm_Rt pm_P (d + 3) 58 (hp0) [.ref 0, .int a1, .int a2] (hp0) (some (.int (-2))) := by
  refine Rt_of aiX8_labels (Nat.le_of_ble_eq_true rfl) ?_
  refine Go_st rfl rfl ?_
  refine Go_st rfl rfl ?_
  refine Go_call rfl (rx_X8_hasNumber_v d _) (chkV rfl rfl rfl rfl rfl rfl) ?_
  refine Go_st rfl rfl ?_
  refine Go_ifT (by decide +kernel) ?_
  refine Go_st rfl rfl ?_
  exact Go_ret rfl ⟨_, rfl, rfl⟩
set_option maxRecDepth 20000 in
set_option maxHeartbeats 4000000 in
theorem rm_X9_labels_v_v (c : Nat → pm_E) (d : Nat) (a1 : Int32) (a2 : Int32) : pm_Rt pm_P (d + 3) 168 (hpm c) [.ref 77, .int a1, .int a2] (hpm c) (some (.int (-2))) := by
  refine Rt_of aiX9_labels (Nat.le_of_ble_eq_true rfl) ?_
  refine Go_st rfl rfl ?_
  refine Go_st rfl rfl ?_
  refine Go_sm rfl rfl (sm_f rfl) ?_
  refine Go_st rfl rfl ?_
  refine Go_st rfl rfl ?_
  refine Go_call rfl (rm_X9_isNumber_v c d _) (chkV rfl rfl rfl rfl rfl rfl) ?_
  refine Go_st rfl rfl ?_
  refine Go_ifT (by decide +kernel) ?_
  refine Go_st rfl rfl ?_
  exact Go_ret rfl ⟨_, rfl, rfl⟩
set_option maxRecDepth 20000 in
set_option maxHeartbeats 4000000 in
theorem rx_X8_chain (d : Nat)  : pm_Rt pm_P (d + 2) 27 (hp0) [.ref 0] (hp0) (some (.int (-2))) := by
  refine Rt_of aiX8_chain (Nat.le_of_ble_eq_true rfl) ?_
  refine Go_st rfl rfl ?_
  refine Go_call rfl (rx_X8_hasStreet d) (chkV rfl rfl rfl rfl rfl rfl) ?_
  refine Go_st rfl rfl ?_
  refine Go_ifF (by decide +kernel) ?_
  refine Go_st rfl rfl ?_
  exact Go_ret rfl ⟨_, rfl, rfl⟩
set_option maxRecDepth 20000 in
set_option maxHeartbeats 4000000 in
theorem rm_X9_chain (c : Nat → pm_E) (d : Nat)  : pm_Rt pm_P (d + 2) 128 (hpm c) [.ref 77] (hpm c) (some (.int (-2))) := by
  refine Rt_of aiX9_chain (Nat.le_of_ble_eq_true rfl) ?_
  refine Go_st rfl rfl ?_
  refine Go_st rfl rfl ?_
  refine Go_sm rfl rfl (sm_f rfl) ?_
  refine Go_st rfl rfl ?_
  refine Go_call rfl (rm_X9_isStreet c d) (chkV rfl rfl rfl rfl rfl rfl) ?_
  refine Go_st rfl rfl ?_
  refine Go_ifF (by decide +kernel) ?_
  refine Go_st rfl rfl ?_
  exact Go_ret rfl ⟨_, rfl, rfl⟩
set_option maxRecDepth 20000 in
set_option maxHeartbeats 4000000 in
theorem rx_X8_region_v (d : Nat) (a1 : Int32) : pm_Rt pm_P (d + 2) 81 (hp0) [.ref 0, .int a1] (hp0) (some (.int (-2))) := by
  refine Rt_of aiX8_region (Nat.le_of_ble_eq_true rfl) ?_
  refine Go_st rfl rfl ?_
  refine Go_st rfl rfl ?_
  refine Go_call rfl (rx_X8_hasCar d _) (chkV rfl rfl rfl rfl rfl rfl) ?_
  refine Go_st rfl rfl ?_
  refine Go_ifF (by decide +kernel) ?_
  refine Go_st rfl rfl ?_
  exact Go_ret rfl ⟨_, rfl, rfl⟩
set_option maxRecDepth 20000 in
set_option maxHeartbeats 4000000 in
theorem rm_X9_region_v (c : Nat → pm_E) (d : Nat) (a1 : Int32) : pm_Rt pm_P (d + 3) 191 (hpm c) [.ref 77, .int a1] (hpm c) (some (.int (-2))) := by
  refine Rt_of aiX9_region (Nat.le_of_ble_eq_true rfl) ?_
  refine Go_st rfl rfl ?_
  refine Go_st rfl rfl ?_
  refine Go_sm rfl rfl (sm_f rfl) ?_
  refine Go_st rfl rfl ?_
  refine Go_st rfl rfl ?_
  refine Go_st rfl rfl ?_
  refine Go_call rfl (rm_X9_isCar_v c d _) (chkV rfl rfl rfl rfl rfl rfl) ?_
  refine Go_st rfl rfl ?_
  refine Go_ifF (by decide +kernel) ?_
  refine Go_st rfl rfl ?_
  exact Go_ret rfl ⟨_, rfl, rfl⟩
set_option maxRecDepth 20000 in
set_option maxHeartbeats 4000000 in
theorem rx_X8_hasPair_v_v (d : Nat) (a1 : Int32) (a2 : Int32) : pm_Rt pm_P (d + 2) 45 (hp0) [.ref 0, .int a1, .int a2] (hp0) (some (.int 0)) := by
  refine Rt_of aiX8_hasPair (Nat.le_of_ble_eq_true rfl) ?_
  refine Go_st rfl rfl ?_
  refine Go_st rfl rfl ?_
  refine Go_call rfl (rx_X8_hasCar d _) (chkV rfl rfl rfl rfl rfl rfl) ?_
  refine Go_st rfl rfl ?_
  refine Go_ifT (by decide +kernel) ?_
  refine Go_st rfl rfl ?_
  exact Go_ret rfl ⟨_, rfl, by decide, rfl⟩
set_option maxRecDepth 20000 in
set_option maxHeartbeats 4000000 in
theorem rx_X8_across_v_v (d : Nat) (a1 : Int32) (a2 : Int32) : pm_Rt pm_P (d + 3) 15 (hp0) [.ref 0, .int a1, .int a2] (hp0) (some (.int (-2))) := by
  refine Rt_of aiX8_across (Nat.le_of_ble_eq_true rfl) ?_
  refine Go_st rfl rfl ?_
  refine Go_st rfl rfl ?_
  refine Go_st rfl rfl ?_
  refine Go_call rfl (rx_X8_hasPair_v_v d _ _) (chkV rfl rfl rfl rfl rfl rfl) ?_
  refine Go_st rfl rfl ?_
  refine Go_ifF (by decide +kernel) ?_
  refine Go_st rfl rfl ?_
  exact Go_ret rfl ⟨_, rfl, rfl⟩
set_option maxRecDepth 20000 in
set_option maxHeartbeats 4000000 in
theorem rm_X9_areTwo_v_v (c : Nat → pm_E) (d : Nat) (a1 : Int32) (a2 : Int32) : pm_Rt pm_P (d + 3) 115 (hpm c) [.ref 77, .int a1, .int a2] (hpm c) (some (.int 0)) := by
  refine Rt_of aiX9_areTwo (Nat.le_of_ble_eq_true rfl) ?_
  refine Go_st rfl rfl ?_
  refine Go_st rfl rfl ?_
  refine Go_st rfl rfl ?_
  refine Go_call rfl (rm_X9_isCar_v c d _) (chkV rfl rfl rfl rfl rfl rfl) ?_
  refine Go_st rfl rfl ?_
  refine Go_ifT (by decide +kernel) ?_
  refine Go_st rfl rfl ?_
  exact Go_ret rfl ⟨_, rfl, by decide, rfl⟩
set_option maxRecDepth 20000 in
set_option maxHeartbeats 4000000 in
theorem rm_X9_across_v_v (c : Nat → pm_E) (d : Nat) (a1 : Int32) (a2 : Int32) : pm_Rt pm_P (d + 4) 113 (hpm c) [.ref 77, .int a1, .int a2] (hpm c) (some (.int (-2))) := by
  refine Rt_of aiX9_across (Nat.le_of_ble_eq_true rfl) ?_
  refine Go_st rfl rfl ?_
  refine Go_st rfl rfl ?_
  refine Go_sm rfl rfl (sm_f rfl) ?_
  refine Go_st rfl rfl ?_
  refine Go_st rfl rfl ?_
  refine Go_st rfl rfl ?_
  refine Go_call rfl (rm_X9_areTwo_v_v c d _ _) (chkV rfl rfl rfl rfl rfl rfl) ?_
  refine Go_st rfl rfl ?_
  refine Go_ifF (by decide +kernel) ?_
  refine Go_st rfl rfl ?_
  exact Go_ret rfl ⟨_, rfl, rfl⟩
set_option maxRecDepth 20000 in
set_option maxHeartbeats 4000000 in
theorem rx_X8_fences (d : Nat)  : pm_Rt pm_P (d + 2) 38 (hp0) [.ref 0] (hp0) (some (.int (-2))) := by
  refine Rt_of aiX8_fences (Nat.le_of_ble_eq_true rfl) ?_
  refine Go_st rfl rfl ?_
  refine Go_call rfl (rx_X8_hasStreet d) (chkV rfl rfl rfl rfl rfl rfl) ?_
  refine Go_st rfl rfl ?_
  refine Go_ifF (by decide +kernel) ?_
  refine Go_st rfl rfl ?_
  exact Go_ret rfl ⟨_, rfl, rfl⟩
set_option maxRecDepth 20000 in
set_option maxHeartbeats 4000000 in
theorem rm_X9_fences (c : Nat → pm_E) (d : Nat)  : pm_Rt pm_P (d + 2) 142 (hpm c) [.ref 77] (hpm c) (some (.int (-2))) := by
  refine Rt_of aiX9_fences (Nat.le_of_ble_eq_true rfl) ?_
  refine Go_st rfl rfl ?_
  refine Go_st rfl rfl ?_
  refine Go_sm rfl rfl (sm_f rfl) ?_
  refine Go_st rfl rfl ?_
  refine Go_call rfl (rm_X9_isStreet c d) (chkV rfl rfl rfl rfl rfl rfl) ?_
  refine Go_st rfl rfl ?_
  refine Go_ifF (by decide +kernel) ?_
  refine Go_st rfl rfl ?_
  exact Go_ret rfl ⟨_, rfl, rfl⟩
set_option maxRecDepth 20000 in
set_option maxHeartbeats 4000000 in
theorem rx_X8_far (d : Nat)  : pm_Rt pm_P (d + 2) 35 (hp0) [.ref 0] (hp0) (some (.int (-2))) := by
  refine Rt_of aiX8_far (Nat.le_of_ble_eq_true rfl) ?_
  refine Go_st rfl rfl ?_
  refine Go_call rfl (rx_X8_hasStreet d) (chkV rfl rfl rfl rfl rfl rfl) ?_
  refine Go_st rfl rfl ?_
  refine Go_ifF (by decide +kernel) ?_
  refine Go_st rfl rfl ?_
  exact Go_ret rfl ⟨_, rfl, rfl⟩
set_option maxRecDepth 20000 in
set_option maxHeartbeats 4000000 in
theorem rm_X9_far (c : Nat → pm_E) (d : Nat)  : pm_Rt pm_P (d + 2) 139 (hpm c) [.ref 77] (hpm c) (some (.int (-2))) := by
  refine Rt_of aiX9_far (Nat.le_of_ble_eq_true rfl) ?_
  refine Go_st rfl rfl ?_
  refine Go_st rfl rfl ?_
  refine Go_sm rfl rfl (sm_f rfl) ?_
  refine Go_st rfl rfl ?_
  refine Go_call rfl (rm_X9_isStreet c d) (chkV rfl rfl rfl rfl rfl rfl) ?_
  refine Go_st rfl rfl ?_
  refine Go_ifF (by decide +kernel) ?_
  refine Go_st rfl rfl ?_
  exact Go_ret rfl ⟨_, rfl, rfl⟩
set_option maxRecDepth 20000 in
set_option maxHeartbeats 4000000 in
theorem rx_X8_astride (d : Nat)  : pm_Rt pm_P (d + 2) 18 (hp0) [.ref 0] (hp0) (some (.int (-2))) := by
  refine Rt_of aiX8_astride (Nat.le_of_ble_eq_true rfl) ?_
  refine Go_st rfl rfl ?_
  refine Go_call rfl (rx_X8_hasStreet d) (chkV rfl rfl rfl rfl rfl rfl) ?_
  refine Go_st rfl rfl ?_
  refine Go_ifF (by decide +kernel) ?_
  refine Go_st rfl rfl ?_
  exact Go_ret rfl ⟨_, rfl, rfl⟩
set_option maxRecDepth 20000 in
set_option maxHeartbeats 4000000 in
theorem rm_X9_astride (c : Nat → pm_E) (d : Nat)  : pm_Rt pm_P (d + 2) 117 (hpm c) [.ref 77] (hpm c) (some (.int (-2))) := by
  refine Rt_of aiX9_astride (Nat.le_of_ble_eq_true rfl) ?_
  refine Go_st rfl rfl ?_
  refine Go_st rfl rfl ?_
  refine Go_sm rfl rfl (sm_f rfl) ?_
  refine Go_st rfl rfl ?_
  refine Go_call rfl (rm_X9_isStreet c d) (chkV rfl rfl rfl rfl rfl rfl) ?_
  refine Go_st rfl rfl ?_
  refine Go_ifF (by decide +kernel) ?_
  refine Go_st rfl rfl ?_
  exact Go_ret rfl ⟨_, rfl, rfl⟩
set_option maxRecDepth 20000 in
set_option maxHeartbeats 4000000 in
theorem rx_X8_mend (d : Nat)  : pm_Rt pm_P (d + 2) 69 (hp0) [.ref 0] (hp0) (some (.int (-2))) := by
  refine Rt_of aiX8_mend (Nat.le_of_ble_eq_true rfl) ?_
  refine Go_st rfl rfl ?_
  refine Go_call rfl (rx_X8_hasStreet d) (chkV rfl rfl rfl rfl rfl rfl) ?_
  refine Go_st rfl rfl ?_
  refine Go_ifF (by decide +kernel) ?_
  refine Go_st rfl rfl ?_
  exact Go_ret rfl ⟨_, rfl, rfl⟩
set_option maxRecDepth 20000 in
set_option maxHeartbeats 4000000 in
theorem rm_X9_mend (c : Nat → pm_E) (d : Nat)  : pm_Rt pm_P (d + 2) 179 (hpm c) [.ref 77] (hpm c) (some (.int (-2))) := by
  refine Rt_of aiX9_mend (Nat.le_of_ble_eq_true rfl) ?_
  refine Go_st rfl rfl ?_
  refine Go_st rfl rfl ?_
  refine Go_sm rfl rfl (sm_f rfl) ?_
  refine Go_st rfl rfl ?_
  refine Go_call rfl (rm_X9_isStreet c d) (chkV rfl rfl rfl rfl rfl rfl) ?_
  refine Go_st rfl rfl ?_
  refine Go_ifF (by decide +kernel) ?_
  refine Go_st rfl rfl ?_
  exact Go_ret rfl ⟨_, rfl, rfl⟩
set_option maxRecDepth 20000 in
set_option maxHeartbeats 4000000 in
theorem rx_X8_swap (d : Nat)  : pm_Rt pm_P (d + 2) 99 (hp0) [.ref 0] (hp0) (some (.int (-2))) := by
  refine Rt_of aiX8_swap (Nat.le_of_ble_eq_true rfl) ?_
  refine Go_st rfl rfl ?_
  refine Go_call rfl (rx_X8_hasStreet d) (chkV rfl rfl rfl rfl rfl rfl) ?_
  refine Go_st rfl rfl ?_
  refine Go_ifF (by decide +kernel) ?_
  refine Go_st rfl rfl ?_
  exact Go_ret rfl ⟨_, rfl, rfl⟩
set_option maxRecDepth 20000 in
set_option maxHeartbeats 4000000 in
theorem rm_X9_swap (c : Nat → pm_E) (d : Nat)  : pm_Rt pm_P (d + 2) 205 (hpm c) [.ref 77] (hpm c) (some (.int (-2))) := by
  refine Rt_of aiX9_swap (Nat.le_of_ble_eq_true rfl) ?_
  refine Go_st rfl rfl ?_
  refine Go_st rfl rfl ?_
  refine Go_sm rfl rfl (sm_f rfl) ?_
  refine Go_st rfl rfl ?_
  refine Go_call rfl (rm_X9_isStreet c d) (chkV rfl rfl rfl rfl rfl rfl) ?_
  refine Go_st rfl rfl ?_
  refine Go_ifF (by decide +kernel) ?_
  refine Go_st rfl rfl ?_
  exact Go_ret rfl ⟨_, rfl, rfl⟩
set_option maxRecDepth 20000 in
set_option maxHeartbeats 4000000 in
theorem rx_X8_blame (d : Nat)  : pm_Rt pm_P (d + 2) 20 (hp0) [.ref 0] (hp0) (some (.int (-2))) := by
  refine Rt_of aiX8_blame (Nat.le_of_ble_eq_true rfl) ?_
  refine Go_st rfl rfl ?_
  refine Go_call rfl (rx_X8_hasStreet d) (chkV rfl rfl rfl rfl rfl rfl) ?_
  refine Go_st rfl rfl ?_
  refine Go_ifF (by decide +kernel) ?_
  refine Go_st rfl rfl ?_
  exact Go_ret rfl ⟨_, rfl, rfl⟩
set_option maxRecDepth 20000 in
set_option maxHeartbeats 4000000 in
theorem rm_X9_blame (c : Nat → pm_E) (d : Nat)  : pm_Rt pm_P (d + 2) 120 (hpm c) [.ref 77] (hpm c) (some (.int (-2))) := by
  refine Rt_of aiX9_blame (Nat.le_of_ble_eq_true rfl) ?_
  refine Go_st rfl rfl ?_
  refine Go_st rfl rfl ?_
  refine Go_sm rfl rfl (sm_f rfl) ?_
  refine Go_st rfl rfl ?_
  refine Go_call rfl (rm_X9_isStreet c d) (chkV rfl rfl rfl rfl rfl rfl) ?_
  refine Go_st rfl rfl ?_
  refine Go_ifF (by decide +kernel) ?_
  refine Go_st rfl rfl ?_
  exact Go_ret rfl ⟨_, rfl, rfl⟩
set_option maxRecDepth 20000 in
set_option maxHeartbeats 4000000 in
theorem rx_X8_sightRefusal_v_0 (d : Nat) (a1 : Int32) : pm_Rt pm_P (d + 2) 93 (hp0) [.ref 0, .int a1, .int 0] (hp0) (some (.int (-2))) := by
  refine Rt_of aiX8_sightRefusal (Nat.le_of_ble_eq_true rfl) ?_
  refine Go_st rfl rfl ?_
  obtain ⟨rr, hrr, hcc⟩ := rx_isSlot (hp0) d a1
  rcases hrr with rfl | rfl
  · refine Go_call rfl hcc (chkS rfl rfl rfl rfl) ?_
    refine Go_st rfl rfl ?_
    refine Go_ifT (by decide +kernel) ?_
    refine Go_st rfl rfl ?_
    exact Go_ret rfl ⟨_, rfl, rfl⟩
  · refine Go_call rfl hcc (chkS rfl rfl rfl rfl) ?_
    refine Go_st rfl rfl ?_
    refine Go_ifF (by decide +kernel) ?_
    refine Go_st rfl rfl ?_
    refine Go_st rfl rfl ?_
    refine Go_ifF (by decide +kernel) ?_
    refine Go_st rfl rfl ?_
    exact Go_ret rfl ⟨_, rfl, rfl⟩
set_option maxRecDepth 20000 in
set_option maxHeartbeats 4000000 in
theorem rx_X8_fits_v_v (d : Nat) (a1 : Int32) (a2 : Int32) : pm_Rt pm_P (d + 3) 39 (hp0) [.ref 0, .int a1, .int a2] (hp0) (some (.int (-2))) := by
  refine Rt_of aiX8_fits (Nat.le_of_ble_eq_true rfl) ?_
  refine Go_st rfl rfl ?_
  refine Go_st rfl rfl ?_
  refine Go_st rfl rfl ?_
  refine Go_st rfl rfl ?_
  refine Go_call rfl (rx_X8_hasCar (d + 1) _) (chkV rfl rfl rfl rfl rfl rfl) ?_
  refine Go_call rfl (rx_X8_sightRefusal_v_0 d _) (chkV rfl rfl rfl rfl rfl rfl) ?_
  refine Go_st rfl rfl ?_
  refine Go_st rfl rfl ?_
  refine Go_st rfl rfl ?_
  refine Go_ifF (by decide +kernel) ?_
  refine Go_st rfl rfl ?_
  refine Go_st rfl rfl ?_
  exact Go_ret rfl ⟨_, rfl, rfl⟩
set_option maxRecDepth 20000 in
set_option maxHeartbeats 4000000 in
theorem rm_X9_whyNot_v_0 (c : Nat → pm_E) (d : Nat) (a1 : Int32) : pm_Rt pm_P (d + 3) 214 (hpm c) [.ref 77, .int a1, .int 0] (hpm c) (some (.int (-2))) := by
  refine Rt_of aiX9_whyNot (Nat.le_of_ble_eq_true rfl) ?_
  refine Go_st rfl rfl ?_
  obtain ⟨rr, hrr, hcc⟩ := rm_isSlot (hpm c) d a1
  rcases hrr with rfl | rfl
  · refine Go_call rfl hcc (chkS rfl rfl rfl rfl) ?_
    refine Go_st rfl rfl ?_
    refine Go_ifT (by decide +kernel) ?_
    refine Go_st rfl rfl ?_
    exact Go_ret rfl ⟨_, rfl, rfl⟩
  · refine Go_call rfl hcc (chkS rfl rfl rfl rfl) ?_
    refine Go_st rfl rfl ?_
    refine Go_ifF (by decide +kernel) ?_
    refine Go_st rfl rfl ?_
    refine Go_call rfl (rm_X9_isStreet c (d + 1)) (chkV rfl rfl rfl rfl rfl rfl) ?_
    refine Go_st rfl rfl ?_
    refine Go_ifT (by decide +kernel) ?_
    refine Go_st rfl rfl ?_
    exact Go_ret rfl ⟨_, rfl, rfl⟩
set_option maxRecDepth 20000 in
set_option maxHeartbeats 4000000 in
theorem rm_X9_fits_v_v (c : Nat → pm_E) (d : Nat) (a1 : Int32) (a2 : Int32) : pm_Rt pm_P (d + 4) 143 (hpm c) [.ref 77, .int a1, .int a2] (hpm c) (some (.int (-2))) := by
  refine Rt_of aiX9_fits (Nat.le_of_ble_eq_true rfl) ?_
  refine Go_st rfl rfl ?_
  refine Go_st rfl rfl ?_
  refine Go_sm rfl rfl (sm_f rfl) ?_
  refine Go_st rfl rfl ?_
  refine Go_st rfl rfl ?_
  refine Go_st rfl rfl ?_
  refine Go_st rfl rfl ?_
  refine Go_st rfl rfl ?_
  refine Go_call rfl (rm_X9_isCar_v c (d + 1) _) (chkV rfl rfl rfl rfl rfl rfl) ?_
  refine Go_call rfl (rm_X9_whyNot_v_0 c d _) (chkV rfl rfl rfl rfl rfl rfl) ?_
  refine Go_st rfl rfl ?_
  refine Go_st rfl rfl ?_
  refine Go_st rfl rfl ?_
  refine Go_ifF (by decide +kernel) ?_
  refine Go_st rfl rfl ?_
  exact Go_ret rfl ⟨_, rfl, rfl⟩
set_option maxRecDepth 20000 in
set_option maxHeartbeats 4000000 in
theorem rx_X8_ask_v_v (d : Nat) (a1 : Int32) (a2 : Int32) : pm_Rt pm_P (d + 3) 17 (hp0) [.ref 0, .int a1, .int a2] (hp0) (some (.int (-2))) := by
  refine Rt_of aiX8_ask (Nat.le_of_ble_eq_true rfl) ?_
  refine Go_st rfl rfl ?_
  refine Go_st rfl rfl ?_
  refine Go_st rfl rfl ?_
  refine Go_st rfl rfl ?_
  refine Go_call rfl (rx_X8_hasCar (d + 1) _) (chkV rfl rfl rfl rfl rfl rfl) ?_
  refine Go_call rfl (rx_X8_sightRefusal_v_0 d _) (chkV rfl rfl rfl rfl rfl rfl) ?_
  refine Go_st rfl rfl ?_
  refine Go_st rfl rfl ?_
  refine Go_st rfl rfl ?_
  refine Go_ifF (by decide +kernel) ?_
  refine Go_st rfl rfl ?_
  exact Go_ret rfl ⟨_, rfl, rfl⟩
set_option maxRecDepth 20000 in
set_option maxHeartbeats 4000000 in
theorem rm_X9_ask_v_v (c : Nat → pm_E) (d : Nat) (a1 : Int32) (a2 : Int32) : pm_Rt pm_P (d + 4) 116 (hpm c) [.ref 77, .int a1, .int a2] (hpm c) (some (.int (-2))) := by
  refine Rt_of aiX9_ask (Nat.le_of_ble_eq_true rfl) ?_
  refine Go_st rfl rfl ?_
  refine Go_st rfl rfl ?_
  refine Go_sm rfl rfl (sm_f rfl) ?_
  refine Go_st rfl rfl ?_
  refine Go_st rfl rfl ?_
  refine Go_st rfl rfl ?_
  refine Go_st rfl rfl ?_
  refine Go_st rfl rfl ?_
  refine Go_call rfl (rm_X9_isCar_v c (d + 1) _) (chkV rfl rfl rfl rfl rfl rfl) ?_
  refine Go_call rfl (rm_X9_whyNot_v_0 c d _) (chkV rfl rfl rfl rfl rfl rfl) ?_
  refine Go_st rfl rfl ?_
  refine Go_st rfl rfl ?_
  refine Go_st rfl rfl ?_
  refine Go_ifF (by decide +kernel) ?_
  refine Go_st rfl rfl ?_
  exact Go_ret rfl ⟨_, rfl, rfl⟩
set_option maxRecDepth 20000 in
set_option maxHeartbeats 4000000 in
theorem rx_X8_remain_v_v (d : Nat) (a1 : Int32) (a2 : Int32) : pm_Rt pm_P (d + 3) 82 (hp0) [.ref 0, .int a1, .int a2] (hp0) (some (.int (-2))) := by
  refine Rt_of aiX8_remain (Nat.le_of_ble_eq_true rfl) ?_
  refine Go_st rfl rfl ?_
  refine Go_st rfl rfl ?_
  refine Go_st rfl rfl ?_
  refine Go_st rfl rfl ?_
  refine Go_call rfl (rx_X8_hasCar (d + 1) _) (chkV rfl rfl rfl rfl rfl rfl) ?_
  refine Go_call rfl (rx_X8_sightRefusal_v_0 d _) (chkV rfl rfl rfl rfl rfl rfl) ?_
  refine Go_st rfl rfl ?_
  refine Go_st rfl rfl ?_
  refine Go_st rfl rfl ?_
  refine Go_ifF (by decide +kernel) ?_
  refine Go_st rfl rfl ?_
  exact Go_ret rfl ⟨_, rfl, rfl⟩
set_option maxRecDepth 20000 in
set_option maxHeartbeats 4000000 in
theorem rm_X9_remain_v_v (c : Nat → pm_E) (d : Nat) (a1 : Int32) (a2 : Int32) : pm_Rt pm_P (d + 4) 192 (hpm c) [.ref 77, .int a1, .int a2] (hpm c) (some (.int (-2))) := by
  refine Rt_of aiX9_remain (Nat.le_of_ble_eq_true rfl) ?_
  refine Go_st rfl rfl ?_
  refine Go_st rfl rfl ?_
  refine Go_sm rfl rfl (sm_f rfl) ?_
  refine Go_st rfl rfl ?_
  refine Go_st rfl rfl ?_
  refine Go_st rfl rfl ?_
  refine Go_st rfl rfl ?_
  refine Go_st rfl rfl ?_
  refine Go_call rfl (rm_X9_isCar_v c (d + 1) _) (chkV rfl rfl rfl rfl rfl rfl) ?_
  refine Go_call rfl (rm_X9_whyNot_v_0 c d _) (chkV rfl rfl rfl rfl rfl rfl) ?_
  refine Go_st rfl rfl ?_
  refine Go_st rfl rfl ?_
  refine Go_st rfl rfl ?_
  refine Go_ifF (by decide +kernel) ?_
  refine Go_st rfl rfl ?_
  exact Go_ret rfl ⟨_, rfl, rfl⟩
set_option maxRecDepth 20000 in
set_option maxHeartbeats 4000000 in
theorem rx_X8_laws_v (d : Nat) (a1 : Int32) : pm_Rt pm_P (d + 3) 61 (hp0) [.ref 0, .int a1] (hp0) (some (.int (-2))) := by
  refine Rt_of aiX8_laws (Nat.le_of_ble_eq_true rfl) ?_
  refine Go_st rfl rfl ?_
  refine Go_st rfl rfl ?_
  refine Go_st rfl rfl ?_
  refine Go_call rfl (rx_X8_hasStreet (d + 1)) (chkV rfl rfl rfl rfl rfl rfl) ?_
  refine Go_call rfl (rx_X8_sightRefusal_v_0 d _) (chkV rfl rfl rfl rfl rfl rfl) ?_
  refine Go_st rfl rfl ?_
  refine Go_st rfl rfl ?_
  refine Go_st rfl rfl ?_
  refine Go_ifF (by decide +kernel) ?_
  refine Go_st rfl rfl ?_
  exact Go_ret rfl ⟨_, rfl, rfl⟩
set_option maxRecDepth 20000 in
set_option maxHeartbeats 4000000 in
theorem rm_X9_whyNot_v_1 (c : Nat → pm_E) (d : Nat) (a1 : Int32) : pm_Rt pm_P (d + 3) 214 (hpm c) [.ref 77, .int a1, .int 1] (hpm c) (some (.int (-2))) := by
  refine Rt_of aiX9_whyNot (Nat.le_of_ble_eq_true rfl) ?_
  refine Go_st rfl rfl ?_
  obtain ⟨rr, hrr, hcc⟩ := rm_isSlot (hpm c) d a1
  rcases hrr with rfl | rfl
  · refine Go_call rfl hcc (chkS rfl rfl rfl rfl) ?_
    refine Go_st rfl rfl ?_
    refine Go_ifT (by decide +kernel) ?_
    refine Go_st rfl rfl ?_
    exact Go_ret rfl ⟨_, rfl, rfl⟩
  · refine Go_call rfl hcc (chkS rfl rfl rfl rfl) ?_
    refine Go_st rfl rfl ?_
    refine Go_ifF (by decide +kernel) ?_
    refine Go_st rfl rfl ?_
    refine Go_call rfl (rm_X9_isStreet c (d + 1)) (chkV rfl rfl rfl rfl rfl rfl) ?_
    refine Go_st rfl rfl ?_
    refine Go_ifT (by decide +kernel) ?_
    refine Go_st rfl rfl ?_
    exact Go_ret rfl ⟨_, rfl, rfl⟩
set_option maxRecDepth 20000 in
set_option maxHeartbeats 4000000 in
theorem rm_X9_laws_v (c : Nat → pm_E) (d : Nat) (a1 : Int32) : pm_Rt pm_P (d + 4) 171 (hpm c) [.ref 77, .int a1] (hpm c) (some (.int (-2))) := by
  refine Rt_of aiX9_laws (Nat.le_of_ble_eq_true rfl) ?_
  refine Go_st rfl rfl ?_
  refine Go_st rfl rfl ?_
  refine Go_sm rfl rfl (sm_f rfl) ?_
  refine Go_st rfl rfl ?_
  refine Go_st rfl rfl ?_
  refine Go_st rfl rfl ?_
  refine Go_call rfl (rm_X9_whyNot_v_1 c d _) (chkV rfl rfl rfl rfl rfl rfl) ?_
  refine Go_st rfl rfl ?_
  refine Go_st rfl rfl ?_
  refine Go_st rfl rfl ?_
  refine Go_ifF (by decide +kernel) ?_
  refine Go_st rfl rfl ?_
  exact Go_ret rfl ⟨_, rfl, rfl⟩
set_option maxRecDepth 20000 in
set_option maxHeartbeats 4000000 in
theorem rx_X8_by_v (d : Nat) (a1 : Int32) : pm_Rt pm_P (d + 2) 25 (hp0) [.ref 0, .int a1] (hp0) (some (.int (-2))) := by
  refine Rt_of aiX8_by (Nat.le_of_ble_eq_true rfl) ?_
  refine Go_st rfl rfl ?_
  refine Go_call rfl (rx_X8_hasStreet d) (chkV rfl rfl rfl rfl rfl rfl) ?_
  refine Go_st rfl rfl ?_
  refine Go_ifT (by decide +kernel) ?_
  refine Go_st rfl rfl ?_
  exact Go_ret rfl ⟨_, rfl, rfl⟩
set_option maxRecDepth 20000 in
set_option maxHeartbeats 4000000 in
theorem rm_X9_by_v (c : Nat → pm_E) (d : Nat) (a1 : Int32) : pm_Rt pm_P (d + 2) 125 (hpm c) [.ref 77, .int a1] (hpm c) (some (.int (-2))) := by
  refine Rt_of aiX9_by (Nat.le_of_ble_eq_true rfl) ?_
  refine Go_st rfl rfl ?_
  refine Go_st rfl rfl ?_
  refine Go_sm rfl rfl (sm_f rfl) ?_
  refine Go_st rfl rfl ?_
  refine Go_call rfl (rm_X9_isStreet c d) (chkV rfl rfl rfl rfl rfl rfl) ?_
  refine Go_st rfl rfl ?_
  refine Go_ifT (by decide +kernel) ?_
  refine Go_st rfl rfl ?_
  exact Go_ret rfl ⟨_, rfl, rfl⟩
set_option maxRecDepth 20000 in
set_option maxHeartbeats 4000000 in
theorem rx_X8_law (d : Nat)  : pm_Rt pm_P (d + 2) 59 (hp0) [.ref 0] (hp0) (some (.int (-2))) := by
  refine Rt_of aiX8_law (Nat.le_of_ble_eq_true rfl) ?_
  refine Go_st rfl rfl ?_
  refine Go_call rfl (rx_X8_hasStreet d) (chkV rfl rfl rfl rfl rfl rfl) ?_
  refine Go_st rfl rfl ?_
  refine Go_ifF (by decide +kernel) ?_
  refine Go_st rfl rfl ?_
  exact Go_ret rfl ⟨_, rfl, rfl⟩
set_option maxRecDepth 20000 in
set_option maxHeartbeats 4000000 in
theorem rm_X9_law (c : Nat → pm_E) (d : Nat)  : pm_Rt pm_P (d + 2) 169 (hpm c) [.ref 77] (hpm c) (some (.int (-2))) := by
  refine Rt_of aiX9_law (Nat.le_of_ble_eq_true rfl) ?_
  refine Go_st rfl rfl ?_
  refine Go_st rfl rfl ?_
  refine Go_sm rfl rfl (sm_f rfl) ?_
  refine Go_st rfl rfl ?_
  refine Go_call rfl (rm_X9_isStreet c d) (chkV rfl rfl rfl rfl rfl rfl) ?_
  refine Go_st rfl rfl ?_
  refine Go_ifF (by decide +kernel) ?_
  refine Go_st rfl rfl ?_
  exact Go_ret rfl ⟨_, rfl, rfl⟩
set_option maxRecDepth 20000 in
set_option maxHeartbeats 4000000 in
theorem rx_X8_worth_v (d : Nat) (a1 : Int32) : pm_Rt pm_P (d + 2) 110 (hp0) [.ref 0, .int a1] (hp0) (some (.int (-2))) := by
  refine Rt_of aiX8_worth (Nat.le_of_ble_eq_true rfl) ?_
  refine Go_st rfl rfl ?_
  refine Go_call rfl (rx_X8_hasStreet d) (chkV rfl rfl rfl rfl rfl rfl) ?_
  refine Go_st rfl rfl ?_
  refine Go_ifT (by decide +kernel) ?_
  refine Go_st rfl rfl ?_
  exact Go_ret rfl ⟨_, rfl, rfl⟩
set_option maxRecDepth 20000 in
set_option maxHeartbeats 4000000 in
theorem rm_X9_worth_v (c : Nat → pm_E) (d : Nat) (a1 : Int32) : pm_Rt pm_P (d + 2) 218 (hpm c) [.ref 77, .int a1] (hpm c) (some (.int (-2))) := by
  refine Rt_of aiX9_worth (Nat.le_of_ble_eq_true rfl) ?_
  refine Go_st rfl rfl ?_
  refine Go_st rfl rfl ?_
  refine Go_sm rfl rfl (sm_f rfl) ?_
  refine Go_st rfl rfl ?_
  refine Go_call rfl (rm_X9_isStreet c d) (chkV rfl rfl rfl rfl rfl rfl) ?_
  refine Go_st rfl rfl ?_
  refine Go_ifT (by decide +kernel) ?_
  refine Go_st rfl rfl ?_
  exact Go_ret rfl ⟨_, rfl, rfl⟩
set_option maxRecDepth 20000 in
set_option maxHeartbeats 4000000 in
theorem rx_X8_share_v_v (d : Nat) (a1 : Int32) (a2 : Int32) : pm_Rt pm_P (d + 2) 90 (hp0) [.ref 0, .int a1, .int a2] (hp0) (some (.int (-1000000))) := by
  refine Rt_of aiX8_share (Nat.le_of_ble_eq_true rfl) ?_
  refine Go_st rfl rfl ?_
  refine Go_st rfl rfl ?_
  refine Go_call rfl (rx_X8_hasCar d _) (chkV rfl rfl rfl rfl rfl rfl) ?_
  refine Go_st rfl rfl ?_
  refine Go_ifT (by decide +kernel) ?_
  refine Go_st rfl rfl ?_
  exact Go_ret rfl ⟨_, rfl, rfl⟩
set_option maxRecDepth 20000 in
set_option maxHeartbeats 4000000 in
theorem rm_X9_share_v_v (c : Nat → pm_E) (d : Nat) (a1 : Int32) (a2 : Int32) : pm_Rt pm_P (d + 3) 198 (hpm c) [.ref 77, .int a1, .int a2] (hpm c) (some (.int (-1000000))) := by
  refine Rt_of aiX9_share (Nat.le_of_ble_eq_true rfl) ?_
  refine Go_st rfl rfl ?_
  refine Go_st rfl rfl ?_
  refine Go_sm rfl rfl (sm_f rfl) ?_
  refine Go_st rfl rfl ?_
  refine Go_st rfl rfl ?_
  refine Go_st rfl rfl ?_
  refine Go_call rfl (rm_X9_isCar_v c d _) (chkV rfl rfl rfl rfl rfl rfl) ?_
  refine Go_st rfl rfl ?_
  refine Go_ifT (by decide +kernel) ?_
  refine Go_st rfl rfl ?_
  exact Go_ret rfl ⟨_, rfl, rfl⟩
set_option maxRecDepth 20000 in
set_option maxHeartbeats 4000000 in
theorem rx_X8_rests_v_v (d : Nat) (a1 : Int32) (a2 : Int32) : pm_Rt pm_P (d + 3) 83 (hp0) [.ref 0, .int a1, .int a2] (hp0) (some (.int (-2))) := by
  refine Rt_of aiX8_rests (Nat.le_of_ble_eq_true rfl) ?_
  refine Go_st rfl rfl ?_
  refine Go_st rfl rfl ?_
  refine Go_st rfl rfl ?_
  refine Go_call rfl (rx_X8_hasPair_v_v d _ _) (chkV rfl rfl rfl rfl rfl rfl) ?_
  refine Go_st rfl rfl ?_
  refine Go_ifF (by decide +kernel) ?_
  refine Go_st rfl rfl ?_
  exact Go_ret rfl ⟨_, rfl, rfl⟩
set_option maxRecDepth 20000 in
set_option maxHeartbeats 4000000 in
theorem rm_X9_rests_v_v (c : Nat → pm_E) (d : Nat) (a1 : Int32) (a2 : Int32) : pm_Rt pm_P (d + 4) 193 (hpm c) [.ref 77, .int a1, .int a2] (hpm c) (some (.int (-2))) := by
  refine Rt_of aiX9_rests (Nat.le_of_ble_eq_true rfl) ?_
  refine Go_st rfl rfl ?_
  refine Go_st rfl rfl ?_
  refine Go_sm rfl rfl (sm_f rfl) ?_
  refine Go_st rfl rfl ?_
  refine Go_st rfl rfl ?_
  refine Go_st rfl rfl ?_
  refine Go_call rfl (rm_X9_areTwo_v_v c d _ _) (chkV rfl rfl rfl rfl rfl rfl) ?_
  refine Go_st rfl rfl ?_
  refine Go_ifF (by decide +kernel) ?_
  refine Go_st rfl rfl ?_
  exact Go_ret rfl ⟨_, rfl, rfl⟩
set_option maxRecDepth 20000 in
set_option maxHeartbeats 4000000 in
theorem rx_X8_gets_v_v_v_v (d : Nat) (a1 : Int32) (a2 : Int32) (a3 : Int32) (a4 : Int32) : pm_Rt pm_P (d + 3) 41 (hp0) [.ref 0, .int a1, .int a2, .int a3, .int a4] (hp0) (some (.int (-1000))) := by
  refine Rt_of aiX8_gets (Nat.le_of_ble_eq_true rfl) ?_
  refine Go_st rfl rfl ?_
  refine Go_st rfl rfl ?_
  refine Go_st rfl rfl ?_
  refine Go_call rfl (rx_X8_hasPair_v_v d _ _) (chkV rfl rfl rfl rfl rfl rfl) ?_
  refine Go_st rfl rfl ?_
  refine Go_ifT (by decide +kernel) ?_
  refine Go_st rfl rfl ?_
  exact Go_ret rfl ⟨_, rfl, rfl⟩
set_option maxRecDepth 20000 in
set_option maxHeartbeats 4000000 in
theorem rm_X9_gets_v_v_v_v (c : Nat → pm_E) (d : Nat) (a1 : Int32) (a2 : Int32) (a3 : Int32) (a4 : Int32) : pm_Rt pm_P (d + 4) 147 (hpm c) [.ref 77, .int a1, .int a2, .int a3, .int a4] (hpm c) (some (.int (-1000))) := by
  refine Rt_of aiX9_gets (Nat.le_of_ble_eq_true rfl) ?_
  refine Go_st rfl rfl ?_
  refine Go_st rfl rfl ?_
  refine Go_sm rfl rfl (sm_f rfl) ?_
  refine Go_st rfl rfl ?_
  refine Go_st rfl rfl ?_
  refine Go_st rfl rfl ?_
  refine Go_call rfl (rm_X9_areTwo_v_v c d _ _) (chkV rfl rfl rfl rfl rfl rfl) ?_
  refine Go_st rfl rfl ?_
  refine Go_ifT (by decide +kernel) ?_
  refine Go_st rfl rfl ?_
  exact Go_ret rfl ⟨_, rfl, rfl⟩
set_option maxRecDepth 20000 in
set_option maxHeartbeats 4000000 in
theorem rx_X8_chance_v_v (d : Nat) (a1 : Int32) (a2 : Int32) : pm_Rt pm_P (d + 2) 28 (hp0) [.ref 0, .int a1, .int a2] (hp0) (some (.int (-2))) := by
  refine Rt_of aiX8_chance (Nat.le_of_ble_eq_true rfl) ?_
  refine Go_st rfl rfl ?_
  refine Go_st rfl rfl ?_
  refine Go_call rfl (rx_X8_hasCar d _) (chkV rfl rfl rfl rfl rfl rfl) ?_
  refine Go_st rfl rfl ?_
  refine Go_ifT (by decide +kernel) ?_
  refine Go_st rfl rfl ?_
  exact Go_ret rfl ⟨_, rfl, rfl⟩
set_option maxRecDepth 20000 in
set_option maxHeartbeats 4000000 in
theorem rm_X9_chance_v_v (c : Nat → pm_E) (d : Nat) (a1 : Int32) (a2 : Int32) : pm_Rt pm_P (d + 3) 129 (hpm c) [.ref 77, .int a1, .int a2] (hpm c) (some (.int (-2))) := by
  refine Rt_of aiX9_chance (Nat.le_of_ble_eq_true rfl) ?_
  refine Go_st rfl rfl ?_
  refine Go_st rfl rfl ?_
  refine Go_sm rfl rfl (sm_f rfl) ?_
  refine Go_st rfl rfl ?_
  refine Go_st rfl rfl ?_
  refine Go_st rfl rfl ?_
  refine Go_call rfl (rm_X9_isCar_v c d _) (chkV rfl rfl rfl rfl rfl rfl) ?_
  refine Go_st rfl rfl ?_
  refine Go_ifT (by decide +kernel) ?_
  refine Go_st rfl rfl ?_
  exact Go_ret rfl ⟨_, rfl, rfl⟩
set_option maxRecDepth 20000 in
set_option maxHeartbeats 4000000 in
theorem rx_X8_mean_v (d : Nat) (a1 : Int32) : pm_Rt pm_P (d + 2) 68 (hp0) [.ref 0, .int a1] (hp0) (some (.long (-2))) := by
  refine Rt_of aiX8_mean (Nat.le_of_ble_eq_true rfl) ?_
  refine Go_st rfl rfl ?_
  refine Go_call rfl (rx_X8_hasStreet d) (chkV rfl rfl rfl rfl rfl rfl) ?_
  refine Go_st rfl rfl ?_
  refine Go_ifT (by decide +kernel) ?_
  refine Go_st rfl rfl ?_
  exact Go_ret rfl ⟨_, rfl, rfl⟩
set_option maxRecDepth 20000 in
set_option maxHeartbeats 4000000 in
theorem rm_X9_mean_v (c : Nat → pm_E) (d : Nat) (a1 : Int32) : pm_Rt pm_P (d + 2) 178 (hpm c) [.ref 77, .int a1] (hpm c) (some (.long (-2))) := by
  refine Rt_of aiX9_mean (Nat.le_of_ble_eq_true rfl) ?_
  refine Go_st rfl rfl ?_
  refine Go_st rfl rfl ?_
  refine Go_sm rfl rfl (sm_f rfl) ?_
  refine Go_st rfl rfl ?_
  refine Go_call rfl (rm_X9_isStreet c d) (chkV rfl rfl rfl rfl rfl rfl) ?_
  refine Go_st rfl rfl ?_
  refine Go_ifT (by decide +kernel) ?_
  refine Go_st rfl rfl ?_
  exact Go_ret rfl ⟨_, rfl, rfl⟩
set_option maxRecDepth 20000 in
set_option maxHeartbeats 4000000 in
theorem rx_X8_wants_v_v (d : Nat) (a1 : Int32) (a2 : Int32) : pm_Rt pm_P (d + 2) 107 (hp0) [.ref 0, .int a1, .int a2] (hp0) (some (.int (-2))) := by
  refine Rt_of aiX8_wants (Nat.le_of_ble_eq_true rfl) ?_
  refine Go_st rfl rfl ?_
  refine Go_st rfl rfl ?_
  refine Go_call rfl (rx_X8_hasCar d _) (chkV rfl rfl rfl rfl rfl rfl) ?_
  refine Go_st rfl rfl ?_
  refine Go_ifT (by decide +kernel) ?_
  refine Go_st rfl rfl ?_
  exact Go_ret rfl ⟨_, rfl, rfl⟩
set_option maxRecDepth 20000 in
set_option maxHeartbeats 4000000 in
theorem rm_X9_wants_v_v (c : Nat → pm_E) (d : Nat) (a1 : Int32) (a2 : Int32) : pm_Rt pm_P (d + 3) 213 (hpm c) [.ref 77, .int a1, .int a2] (hpm c) (some (.int (-2))) := by
  refine Rt_of aiX9_wants (Nat.le_of_ble_eq_true rfl) ?_
  refine Go_st rfl rfl ?_
  refine Go_st rfl rfl ?_
  refine Go_sm rfl rfl (sm_f rfl) ?_
  refine Go_st rfl rfl ?_
  refine Go_st rfl rfl ?_
  refine Go_st rfl rfl ?_
  refine Go_call rfl (rm_X9_isCar_v c d _) (chkV rfl rfl rfl rfl rfl rfl) ?_
  refine Go_st rfl rfl ?_
  refine Go_ifT (by decide +kernel) ?_
  refine Go_st rfl rfl ?_
  exact Go_ret rfl ⟨_, rfl, rfl⟩
set_option maxRecDepth 20000 in
set_option maxHeartbeats 4000000 in
theorem rx_X8_trades_v_v (d : Nat) (a1 : Int32) (a2 : Int32) : pm_Rt pm_P (d + 3) 101 (hp0) [.ref 0, .int a1, .int a2] (hp0) (some (.int (-2))) := by
  refine Rt_of aiX8_trades (Nat.le_of_ble_eq_true rfl) ?_
  refine Go_st rfl rfl ?_
  refine Go_st rfl rfl ?_
  refine Go_st rfl rfl ?_
  refine Go_call rfl (rx_X8_hasPair_v_v d _ _) (chkV rfl rfl rfl rfl rfl rfl) ?_
  refine Go_st rfl rfl ?_
  refine Go_ifF (by decide +kernel) ?_
  refine Go_st rfl rfl ?_
  exact Go_ret rfl ⟨_, rfl, rfl⟩
set_option maxRecDepth 20000 in
set_option maxHeartbeats 4000000 in
theorem rm_X9_trades_v_v (c : Nat → pm_E) (d : Nat) (a1 : Int32) (a2 : Int32) : pm_Rt pm_P (d + 4) 207 (hpm c) [.ref 77, .int a1, .int a2] (hpm c) (some (.int (-2))) := by
  refine Rt_of aiX9_trades (Nat.le_of_ble_eq_true rfl) ?_
  refine Go_st rfl rfl ?_
  refine Go_st rfl rfl ?_
  refine Go_sm rfl rfl (sm_f rfl) ?_
  refine Go_st rfl rfl ?_
  refine Go_st rfl rfl ?_
  refine Go_st rfl rfl ?_
  refine Go_call rfl (rm_X9_areTwo_v_v c d _ _) (chkV rfl rfl rfl rfl rfl rfl) ?_
  refine Go_st rfl rfl ?_
  refine Go_ifF (by decide +kernel) ?_
  refine Go_st rfl rfl ?_
  exact Go_ret rfl ⟨_, rfl, rfl⟩
set_option maxRecDepth 20000 in
set_option maxHeartbeats 4000000 in
theorem rx_X8_undo (d : Nat)  : pm_Rt pm_P (d + 2) 104 (hp0) [.ref 0] (hp0) (some (.int (-2))) := by
  refine Rt_of aiX8_undo (Nat.le_of_ble_eq_true rfl) ?_
  refine Go_st rfl rfl ?_
  refine Go_call rfl (rx_X8_hasStreet d) (chkV rfl rfl rfl rfl rfl rfl) ?_
  refine Go_st rfl rfl ?_
  refine Go_ifF (by decide +kernel) ?_
  refine Go_st rfl rfl ?_
  exact Go_ret rfl ⟨_, rfl, rfl⟩
set_option maxRecDepth 20000 in
set_option maxHeartbeats 4000000 in
theorem rm_X9_undo (c : Nat → pm_E) (d : Nat)  : pm_Rt pm_P (d + 2) 210 (hpm c) [.ref 77] (hpm c) (some (.int (-2))) := by
  refine Rt_of aiX9_undo (Nat.le_of_ble_eq_true rfl) ?_
  refine Go_st rfl rfl ?_
  refine Go_st rfl rfl ?_
  refine Go_sm rfl rfl (sm_f rfl) ?_
  refine Go_st rfl rfl ?_
  refine Go_call rfl (rm_X9_isStreet c d) (chkV rfl rfl rfl rfl rfl rfl) ?_
  refine Go_st rfl rfl ?_
  refine Go_ifF (by decide +kernel) ?_
  refine Go_st rfl rfl ?_
  exact Go_ret rfl ⟨_, rfl, rfl⟩
set_option maxRecDepth 20000 in
set_option maxHeartbeats 4000000 in
theorem rx_X8_anew (d : Nat)  : pm_Rt pm_P (d + 2) 16 (hp0) [.ref 0] (hp0) (some (.int (-2))) := by
  refine Rt_of aiX8_anew (Nat.le_of_ble_eq_true rfl) ?_
  refine Go_st rfl rfl ?_
  refine Go_call rfl (rx_X8_hasStreet d) (chkV rfl rfl rfl rfl rfl rfl) ?_
  refine Go_st rfl rfl ?_
  refine Go_ifF (by decide +kernel) ?_
  refine Go_st rfl rfl ?_
  exact Go_ret rfl ⟨_, rfl, rfl⟩
set_option maxRecDepth 20000 in
set_option maxHeartbeats 4000000 in
theorem rm_X9_anew (c : Nat → pm_E) (d : Nat)  : pm_Rt pm_P (d + 2) 114 (hpm c) [.ref 77] (hpm c) (some (.int (-2))) := by
  refine Rt_of aiX9_anew (Nat.le_of_ble_eq_true rfl) ?_
  refine Go_st rfl rfl ?_
  refine Go_st rfl rfl ?_
  refine Go_sm rfl rfl (sm_f rfl) ?_
  refine Go_st rfl rfl ?_
  refine Go_call rfl (rm_X9_isStreet c d) (chkV rfl rfl rfl rfl rfl rfl) ?_
  refine Go_st rfl rfl ?_
  refine Go_ifF (by decide +kernel) ?_
  refine Go_st rfl rfl ?_
  exact Go_ret rfl ⟨_, rfl, rfl⟩
set_option maxRecDepth 20000 in
set_option maxHeartbeats 4000000 in
theorem rx_X8_drawn_v_v (d : Nat) (a1 : Int32) (a2 : Int32) : pm_Rt pm_P (d + 2) 32 (hp0) [.ref 0, .int a1, .int a2] (hp0) (some (.int (-2))) := by
  refine Rt_of aiX8_drawn (Nat.le_of_ble_eq_true rfl) ?_
  refine Go_st rfl rfl ?_
  refine Go_call rfl (rx_X8_hasStreet d) (chkV rfl rfl rfl rfl rfl rfl) ?_
  refine Go_st rfl rfl ?_
  refine Go_ifT (by decide +kernel) ?_
  refine Go_st rfl rfl ?_
  exact Go_ret rfl ⟨_, rfl, rfl⟩
set_option maxRecDepth 20000 in
set_option maxHeartbeats 4000000 in
theorem rm_X9_drawn_v_v (c : Nat → pm_E) (d : Nat) (a1 : Int32) (a2 : Int32) : pm_Rt pm_P (d + 2) 136 (hpm c) [.ref 77, .int a1, .int a2] (hpm c) (some (.int (-2))) := by
  refine Rt_of aiX9_drawn (Nat.le_of_ble_eq_true rfl) ?_
  refine Go_st rfl rfl ?_
  refine Go_st rfl rfl ?_
  refine Go_sm rfl rfl (sm_f rfl) ?_
  refine Go_st rfl rfl ?_
  refine Go_call rfl (rm_X9_isStreet c d) (chkV rfl rfl rfl rfl rfl rfl) ?_
  refine Go_st rfl rfl ?_
  refine Go_ifT (by decide +kernel) ?_
  refine Go_st rfl rfl ?_
  exact Go_ret rfl ⟨_, rfl, rfl⟩
set_option maxRecDepth 20000 in
set_option maxHeartbeats 4000000 in
theorem rx_X8_luck_v_v_v (d : Nat) (a1 : Int32) (a2 : Int32) (a3 : Int32) : pm_Rt pm_P (d + 2) 65 (hp0) [.ref 0, .int a1, .int a2, .int a3] (hp0) (some (.int (-2))) := by
  refine Rt_of aiX8_luck (Nat.le_of_ble_eq_true rfl) ?_
  refine Go_st rfl rfl ?_
  refine Go_st rfl rfl ?_
  refine Go_call rfl (rx_X8_hasCar d _) (chkV rfl rfl rfl rfl rfl rfl) ?_
  refine Go_st rfl rfl ?_
  refine Go_ifT (by decide +kernel) ?_
  refine Go_st rfl rfl ?_
  exact Go_ret rfl ⟨_, rfl, rfl⟩
set_option maxRecDepth 20000 in
set_option maxHeartbeats 4000000 in
theorem rm_X9_luck_v_v_v (c : Nat → pm_E) (d : Nat) (a1 : Int32) (a2 : Int32) (a3 : Int32) : pm_Rt pm_P (d + 3) 175 (hpm c) [.ref 77, .int a1, .int a2, .int a3] (hpm c) (some (.int (-2))) := by
  refine Rt_of aiX9_luck (Nat.le_of_ble_eq_true rfl) ?_
  refine Go_st rfl rfl ?_
  refine Go_st rfl rfl ?_
  refine Go_sm rfl rfl (sm_f rfl) ?_
  refine Go_st rfl rfl ?_
  obtain ⟨rr, hrr, hcc⟩ := rm_isSeed (hpm c) d a1
  rcases hrr with rfl | rfl
  · refine Go_call rfl hcc (chkS rfl rfl rfl rfl) ?_
    refine Go_st rfl rfl ?_
    refine Go_ifT (by decide +kernel) ?_
    refine Go_st rfl rfl ?_
    exact Go_ret rfl ⟨_, rfl, rfl⟩
  · refine Go_call rfl hcc (chkS rfl rfl rfl rfl) ?_
    refine Go_st rfl rfl ?_
    refine Go_ifF (by decide +kernel) ?_
    refine Go_st rfl rfl ?_
    refine Go_st rfl rfl ?_
    refine Go_st rfl rfl ?_
    refine Go_st rfl rfl ?_
    obtain ⟨rr, hrr, hcc⟩ := rm_in (hpm c) (d + 1) (a2.toInt64) (1) (20)
    rcases hrr with rfl | rfl
    · refine Go_call rfl hcc (chkS rfl rfl rfl rfl) ?_
      refine Go_st rfl rfl ?_
      refine Go_ifT (by decide +kernel) ?_
      refine Go_st rfl rfl ?_
      exact Go_ret rfl ⟨_, rfl, rfl⟩
    · refine Go_call rfl hcc (chkS rfl rfl rfl rfl) ?_
      refine Go_st rfl rfl ?_
      refine Go_ifF (by decide +kernel) ?_
      refine Go_st rfl rfl ?_
      refine Go_st rfl rfl ?_
      refine Go_st rfl rfl ?_
      refine Go_call rfl (rm_X9_isCar_v c d _) (chkV rfl rfl rfl rfl rfl rfl) ?_
      refine Go_st rfl rfl ?_
      refine Go_ifF (by decide +kernel) ?_
      refine Go_st rfl rfl ?_
      exact Go_ret rfl ⟨_, rfl, rfl⟩
set_option maxRecDepth 20000 in
set_option maxHeartbeats 4000000 in
theorem rx_X8_rate_v_v (d : Nat) (a1 : Int32) (a2 : Int32) : pm_Rt pm_P (d + 2) 78 (hp0) [.ref 0, .int a1, .int a2] (hp0) (some (.int (-2))) := by
  refine Rt_of aiX8_rate (Nat.le_of_ble_eq_true rfl) ?_
  refine Go_st rfl rfl ?_
  refine Go_st rfl rfl ?_
  refine Go_call rfl (rx_X8_hasCar d _) (chkV rfl rfl rfl rfl rfl rfl) ?_
  refine Go_st rfl rfl ?_
  refine Go_ifT (by decide +kernel) ?_
  refine Go_st rfl rfl ?_
  exact Go_ret rfl ⟨_, rfl, rfl⟩
set_option maxRecDepth 20000 in
set_option maxHeartbeats 4000000 in
theorem rm_X9_rate_v_v (c : Nat → pm_E) (d : Nat) (a1 : Int32) (a2 : Int32) : pm_Rt pm_P (d + 3) 189 (hpm c) [.ref 77, .int a1, .int a2] (hpm c) (some (.int (-2))) := by
  refine Rt_of aiX9_rate (Nat.le_of_ble_eq_true rfl) ?_
  refine Go_st rfl rfl ?_
  refine Go_st rfl rfl ?_
  refine Go_sm rfl rfl (sm_f rfl) ?_
  refine Go_st rfl rfl ?_
  refine Go_st rfl rfl ?_
  refine Go_st rfl rfl ?_
  refine Go_call rfl (rm_X9_isCar_v c d _) (chkV rfl rfl rfl rfl rfl rfl) ?_
  refine Go_st rfl rfl ?_
  refine Go_ifT (by decide +kernel) ?_
  refine Go_st rfl rfl ?_
  exact Go_ret rfl ⟨_, rfl, rfl⟩
set_option maxRecDepth 20000 in
set_option maxHeartbeats 4000000 in
theorem rx_X8_count_0 (d : Nat)  : pm_Rt pm_P (d + 1) 30 (hp0) [.ref 0, .int 0] (hp0) (some (.int 0)) := by
  refine Rt_of aiX8_count (Nat.le_of_ble_eq_true rfl) ?_
  refine Go_st rfl rfl ?_
  refine Go_st rfl rfl ?_
  refine Go_st rfl rfl ?_
  refine Go_st rfl rfl ?_
  refine Go_st rfl rfl ?_
  exact Go_ret rfl ⟨_, rfl, rfl⟩
set_option maxRecDepth 20000 in
set_option maxHeartbeats 4000000 in
theorem rx_X8_count_1 (d : Nat)  : pm_Rt pm_P (d + 1) 30 (hp0) [.ref 0, .int 1] (hp0) (some (.int 0)) := by
  refine Rt_of aiX8_count (Nat.le_of_ble_eq_true rfl) ?_
  refine Go_st rfl rfl ?_
  refine Go_st rfl rfl ?_
  refine Go_st rfl rfl ?_
  refine Go_st rfl rfl ?_
  refine Go_st rfl rfl ?_
  exact Go_ret rfl ⟨_, rfl, rfl⟩
set_option maxRecDepth 20000 in
set_option maxHeartbeats 4000000 in
theorem rx_X8_count_2 (d : Nat)  : pm_Rt pm_P (d + 1) 30 (hp0) [.ref 0, .int 2] (hp0) (some (.int 0)) := by
  refine Rt_of aiX8_count (Nat.le_of_ble_eq_true rfl) ?_
  refine Go_st rfl rfl ?_
  refine Go_st rfl rfl ?_
  refine Go_st rfl rfl ?_
  refine Go_st rfl rfl ?_
  refine Go_st rfl rfl ?_
  exact Go_ret rfl ⟨_, rfl, rfl⟩
set_option maxRecDepth 20000 in
set_option maxHeartbeats 4000000 in
theorem rx_X8_count_3 (d : Nat)  : pm_Rt pm_P (d + 1) 30 (hp0) [.ref 0, .int 3] (hp0) (some (.int 0)) := by
  refine Rt_of aiX8_count (Nat.le_of_ble_eq_true rfl) ?_
  refine Go_st rfl rfl ?_
  refine Go_st rfl rfl ?_
  refine Go_st rfl rfl ?_
  refine Go_st rfl rfl ?_
  refine Go_st rfl rfl ?_
  exact Go_ret rfl ⟨_, rfl, rfl⟩
set_option maxRecDepth 20000 in
set_option maxHeartbeats 4000000 in
theorem rx_X8_count_4 (d : Nat)  : pm_Rt pm_P (d + 1) 30 (hp0) [.ref 0, .int 4] (hp0) (some (.int 0)) := by
  refine Rt_of aiX8_count (Nat.le_of_ble_eq_true rfl) ?_
  refine Go_st rfl rfl ?_
  refine Go_st rfl rfl ?_
  refine Go_st rfl rfl ?_
  refine Go_st rfl rfl ?_
  refine Go_st rfl rfl ?_
  exact Go_ret rfl ⟨_, rfl, rfl⟩
set_option maxRecDepth 20000 in
set_option maxHeartbeats 4000000 in
theorem rx_X8_count_5 (d : Nat)  : pm_Rt pm_P (d + 1) 30 (hp0) [.ref 0, .int 5] (hp0) (some (.int 0)) := by
  refine Rt_of aiX8_count (Nat.le_of_ble_eq_true rfl) ?_
  refine Go_st rfl rfl ?_
  refine Go_st rfl rfl ?_
  refine Go_st rfl rfl ?_
  refine Go_st rfl rfl ?_
  refine Go_st rfl rfl ?_
  exact Go_ret rfl ⟨_, rfl, rfl⟩
set_option maxRecDepth 20000 in
set_option maxHeartbeats 4000000 in
theorem rx_X8_count_6 (d : Nat)  : pm_Rt pm_P (d + 1) 30 (hp0) [.ref 0, .int 6] (hp0) (some (.int 0)) := by
  refine Rt_of aiX8_count (Nat.le_of_ble_eq_true rfl) ?_
  refine Go_st rfl rfl ?_
  refine Go_st rfl rfl ?_
  refine Go_st rfl rfl ?_
  refine Go_st rfl rfl ?_
  refine Go_st rfl rfl ?_
  exact Go_ret rfl ⟨_, rfl, rfl⟩
set_option maxRecDepth 20000 in
set_option maxHeartbeats 4000000 in
theorem rx_X8_count_7 (d : Nat)  : pm_Rt pm_P (d + 1) 30 (hp0) [.ref 0, .int 7] (hp0) (some (.int 0)) := by
  refine Rt_of aiX8_count (Nat.le_of_ble_eq_true rfl) ?_
  refine Go_st rfl rfl ?_
  refine Go_st rfl rfl ?_
  refine Go_st rfl rfl ?_
  refine Go_st rfl rfl ?_
  refine Go_st rfl rfl ?_
  exact Go_ret rfl ⟨_, rfl, rfl⟩
set_option maxRecDepth 20000 in
set_option maxHeartbeats 4000000 in
theorem rx_X8_slotsWithRows (d : Nat)  : pm_Rt pm_P (d + 1) 94 (hp0) [.ref 0] (hp0) (some (.int 0)) := by
  refine Rt_of aiX8_slotsWithRows (Nat.le_of_ble_eq_true rfl) ?_
  refine Go_st rfl rfl ?_
  refine Go_st rfl rfl ?_
  refine Go_st rfl rfl ?_
  refine Go_st rfl rfl ?_
  refine Go_st rfl rfl ?_
  refine Go_st rfl rfl ?_
  refine Go_st rfl rfl ?_
  refine Go_ifF (by decide +kernel) ?_
  refine Go_st rfl rfl ?_
  refine Go_st rfl rfl ?_
  refine Go_st rfl rfl ?_
  refine Go_aald (k := 54) rfl rfl rfl (by decide +kernel) (by decide +kernel) ?_
  refine Go_st rfl rfl ?_
  refine Go_st rfl rfl ?_
  refine Go_ifT (by decide +kernel) ?_
  refine Go_inc (v := 1) rfl rfl (by decide +kernel) ?_
  refine Go_st rfl rfl ?_
  refine Go_st rfl rfl ?_
  refine Go_st rfl rfl ?_
  refine Go_st rfl rfl ?_
  refine Go_ifF (by decide +kernel) ?_
  refine Go_st rfl rfl ?_
  refine Go_st rfl rfl ?_
  refine Go_st rfl rfl ?_
  refine Go_aald (k := 56) rfl rfl rfl (by decide +kernel) (by decide +kernel) ?_
  refine Go_st rfl rfl ?_
  refine Go_st rfl rfl ?_
  refine Go_ifT (by decide +kernel) ?_
  refine Go_inc (v := 2) rfl rfl (by decide +kernel) ?_
  refine Go_st rfl rfl ?_
  refine Go_st rfl rfl ?_
  refine Go_st rfl rfl ?_
  refine Go_st rfl rfl ?_
  refine Go_ifF (by decide +kernel) ?_
  refine Go_st rfl rfl ?_
  refine Go_st rfl rfl ?_
  refine Go_st rfl rfl ?_
  refine Go_aald (k := 58) rfl rfl rfl (by decide +kernel) (by decide +kernel) ?_
  refine Go_st rfl rfl ?_
  refine Go_st rfl rfl ?_
  refine Go_ifT (by decide +kernel) ?_
  refine Go_inc (v := 3) rfl rfl (by decide +kernel) ?_
  refine Go_st rfl rfl ?_
  refine Go_st rfl rfl ?_
  refine Go_st rfl rfl ?_
  refine Go_st rfl rfl ?_
  refine Go_ifF (by decide +kernel) ?_
  refine Go_st rfl rfl ?_
  refine Go_st rfl rfl ?_
  refine Go_st rfl rfl ?_
  refine Go_aald (k := 60) rfl rfl rfl (by decide +kernel) (by decide +kernel) ?_
  refine Go_st rfl rfl ?_
  refine Go_st rfl rfl ?_
  refine Go_ifT (by decide +kernel) ?_
  refine Go_inc (v := 4) rfl rfl (by decide +kernel) ?_
  refine Go_st rfl rfl ?_
  refine Go_st rfl rfl ?_
  refine Go_st rfl rfl ?_
  refine Go_st rfl rfl ?_
  refine Go_ifT (by decide +kernel) ?_
  refine Go_st rfl rfl ?_
  exact Go_ret rfl ⟨_, rfl, rfl⟩
set_option maxRecDepth 20000 in
set_option maxHeartbeats 4000000 in
theorem rx_X8_count_8 (d : Nat)  : pm_Rt pm_P (d + 2) 30 (hp0) [.ref 0, .int 8] (hp0) (some (.int 0)) := by
  refine Rt_of aiX8_count (Nat.le_of_ble_eq_true rfl) ?_
  refine Go_st rfl rfl ?_
  refine Go_st rfl rfl ?_
  refine Go_st rfl rfl ?_
  refine Go_call rfl (rx_X8_slotsWithRows d) (chkV rfl rfl rfl rfl rfl rfl) ?_
  exact Go_ret rfl ⟨_, rfl, rfl⟩
set_option maxRecDepth 20000 in
set_option maxHeartbeats 4000000 in
theorem rm_X9_count_0 (c : Nat → pm_E) (d : Nat)  : pm_Rt pm_P (d + 2) 134 (hpm c) [.ref 77, .int 0] (hpm c) (some (.int 0)) := by
  refine Rt_of aiX9_count (Nat.le_of_ble_eq_true rfl) ?_
  refine Go_st rfl rfl ?_
  refine Go_st rfl rfl ?_
  refine Go_sm rfl rfl (sm_f rfl) ?_
  refine Go_st rfl rfl ?_
  refine Go_st rfl rfl ?_
  refine Go_st rfl rfl ?_
  refine Go_st rfl rfl ?_
  refine Go_call rfl (rm_in1 _ d _ _ _ (by decide +kernel)) (chkS rfl rfl rfl rfl) ?_
  refine Go_st rfl rfl ?_
  refine Go_ifF (by decide +kernel) ?_
  refine Go_st rfl rfl ?_
  refine Go_st rfl rfl ?_
  refine Go_st rfl rfl ?_
  refine Go_iald (v := 0) rfl rfl (by decide +kernel) (by decide +kernel) ?_
  exact Go_ret rfl ⟨_, rfl, rfl⟩
set_option maxRecDepth 20000 in
set_option maxHeartbeats 4000000 in
theorem rm_X9_count_1 (c : Nat → pm_E) (d : Nat)  : pm_Rt pm_P (d + 2) 134 (hpm c) [.ref 77, .int 1] (hpm c) (some (.int 0)) := by
  refine Rt_of aiX9_count (Nat.le_of_ble_eq_true rfl) ?_
  refine Go_st rfl rfl ?_
  refine Go_st rfl rfl ?_
  refine Go_sm rfl rfl (sm_f rfl) ?_
  refine Go_st rfl rfl ?_
  refine Go_st rfl rfl ?_
  refine Go_st rfl rfl ?_
  refine Go_st rfl rfl ?_
  refine Go_call rfl (rm_in1 _ d _ _ _ (by decide +kernel)) (chkS rfl rfl rfl rfl) ?_
  refine Go_st rfl rfl ?_
  refine Go_ifF (by decide +kernel) ?_
  refine Go_st rfl rfl ?_
  refine Go_st rfl rfl ?_
  refine Go_st rfl rfl ?_
  refine Go_iald (v := 0) rfl rfl (by decide +kernel) (by decide +kernel) ?_
  exact Go_ret rfl ⟨_, rfl, rfl⟩
set_option maxRecDepth 20000 in
set_option maxHeartbeats 4000000 in
theorem rm_X9_count_2 (c : Nat → pm_E) (d : Nat)  : pm_Rt pm_P (d + 2) 134 (hpm c) [.ref 77, .int 2] (hpm c) (some (.int 0)) := by
  refine Rt_of aiX9_count (Nat.le_of_ble_eq_true rfl) ?_
  refine Go_st rfl rfl ?_
  refine Go_st rfl rfl ?_
  refine Go_sm rfl rfl (sm_f rfl) ?_
  refine Go_st rfl rfl ?_
  refine Go_st rfl rfl ?_
  refine Go_st rfl rfl ?_
  refine Go_st rfl rfl ?_
  refine Go_call rfl (rm_in1 _ d _ _ _ (by decide +kernel)) (chkS rfl rfl rfl rfl) ?_
  refine Go_st rfl rfl ?_
  refine Go_ifF (by decide +kernel) ?_
  refine Go_st rfl rfl ?_
  refine Go_st rfl rfl ?_
  refine Go_st rfl rfl ?_
  refine Go_iald (v := 0) rfl rfl (by decide +kernel) (by decide +kernel) ?_
  exact Go_ret rfl ⟨_, rfl, rfl⟩
set_option maxRecDepth 20000 in
set_option maxHeartbeats 4000000 in
theorem rm_X9_count_3 (c : Nat → pm_E) (d : Nat)  : pm_Rt pm_P (d + 2) 134 (hpm c) [.ref 77, .int 3] (hpm c) (some (.int 0)) := by
  refine Rt_of aiX9_count (Nat.le_of_ble_eq_true rfl) ?_
  refine Go_st rfl rfl ?_
  refine Go_st rfl rfl ?_
  refine Go_sm rfl rfl (sm_f rfl) ?_
  refine Go_st rfl rfl ?_
  refine Go_st rfl rfl ?_
  refine Go_st rfl rfl ?_
  refine Go_st rfl rfl ?_
  refine Go_call rfl (rm_in1 _ d _ _ _ (by decide +kernel)) (chkS rfl rfl rfl rfl) ?_
  refine Go_st rfl rfl ?_
  refine Go_ifF (by decide +kernel) ?_
  refine Go_st rfl rfl ?_
  refine Go_st rfl rfl ?_
  refine Go_st rfl rfl ?_
  refine Go_iald (v := 0) rfl rfl (by decide +kernel) (by decide +kernel) ?_
  exact Go_ret rfl ⟨_, rfl, rfl⟩
set_option maxRecDepth 20000 in
set_option maxHeartbeats 4000000 in
theorem rm_X9_count_4 (c : Nat → pm_E) (d : Nat)  : pm_Rt pm_P (d + 2) 134 (hpm c) [.ref 77, .int 4] (hpm c) (some (.int 0)) := by
  refine Rt_of aiX9_count (Nat.le_of_ble_eq_true rfl) ?_
  refine Go_st rfl rfl ?_
  refine Go_st rfl rfl ?_
  refine Go_sm rfl rfl (sm_f rfl) ?_
  refine Go_st rfl rfl ?_
  refine Go_st rfl rfl ?_
  refine Go_st rfl rfl ?_
  refine Go_st rfl rfl ?_
  refine Go_call rfl (rm_in1 _ d _ _ _ (by decide +kernel)) (chkS rfl rfl rfl rfl) ?_
  refine Go_st rfl rfl ?_
  refine Go_ifF (by decide +kernel) ?_
  refine Go_st rfl rfl ?_
  refine Go_st rfl rfl ?_
  refine Go_st rfl rfl ?_
  refine Go_iald (v := 0) rfl rfl (by decide +kernel) (by decide +kernel) ?_
  exact Go_ret rfl ⟨_, rfl, rfl⟩
set_option maxRecDepth 20000 in
set_option maxHeartbeats 4000000 in
theorem rm_X9_count_5 (c : Nat → pm_E) (d : Nat)  : pm_Rt pm_P (d + 2) 134 (hpm c) [.ref 77, .int 5] (hpm c) (some (.int 0)) := by
  refine Rt_of aiX9_count (Nat.le_of_ble_eq_true rfl) ?_
  refine Go_st rfl rfl ?_
  refine Go_st rfl rfl ?_
  refine Go_sm rfl rfl (sm_f rfl) ?_
  refine Go_st rfl rfl ?_
  refine Go_st rfl rfl ?_
  refine Go_st rfl rfl ?_
  refine Go_st rfl rfl ?_
  refine Go_call rfl (rm_in1 _ d _ _ _ (by decide +kernel)) (chkS rfl rfl rfl rfl) ?_
  refine Go_st rfl rfl ?_
  refine Go_ifF (by decide +kernel) ?_
  refine Go_st rfl rfl ?_
  refine Go_st rfl rfl ?_
  refine Go_st rfl rfl ?_
  refine Go_iald (v := 0) rfl rfl (by decide +kernel) (by decide +kernel) ?_
  exact Go_ret rfl ⟨_, rfl, rfl⟩
set_option maxRecDepth 20000 in
set_option maxHeartbeats 4000000 in
theorem rm_X9_count_6 (c : Nat → pm_E) (d : Nat)  : pm_Rt pm_P (d + 2) 134 (hpm c) [.ref 77, .int 6] (hpm c) (some (.int 0)) := by
  refine Rt_of aiX9_count (Nat.le_of_ble_eq_true rfl) ?_
  refine Go_st rfl rfl ?_
  refine Go_st rfl rfl ?_
  refine Go_sm rfl rfl (sm_f rfl) ?_
  refine Go_st rfl rfl ?_
  refine Go_st rfl rfl ?_
  refine Go_st rfl rfl ?_
  refine Go_st rfl rfl ?_
  refine Go_call rfl (rm_in0 _ d _ _ _ (by decide +kernel)) (chkS rfl rfl rfl rfl) ?_
  refine Go_st rfl rfl ?_
  refine Go_ifT (by decide +kernel) ?_
  refine Go_st rfl rfl ?_
  refine Go_st rfl rfl ?_
  refine Go_st rfl rfl ?_
  refine Go_st rfl rfl ?_
  refine Go_st rfl rfl ?_
  refine Go_st rfl rfl ?_
  refine Go_st rfl rfl ?_
  refine Go_iald (v := 0) rfl rfl (by decide +kernel) (by decide +kernel) ?_
  exact Go_ret rfl ⟨_, rfl, rfl⟩
set_option maxRecDepth 20000 in
set_option maxHeartbeats 4000000 in
theorem rm_X9_count_7 (c : Nat → pm_E) (d : Nat)  : pm_Rt pm_P (d + 2) 134 (hpm c) [.ref 77, .int 7] (hpm c) (some (.int 0)) := by
  refine Rt_of aiX9_count (Nat.le_of_ble_eq_true rfl) ?_
  refine Go_st rfl rfl ?_
  refine Go_st rfl rfl ?_
  refine Go_sm rfl rfl (sm_f rfl) ?_
  refine Go_st rfl rfl ?_
  refine Go_st rfl rfl ?_
  refine Go_st rfl rfl ?_
  refine Go_st rfl rfl ?_
  refine Go_call rfl (rm_in0 _ d _ _ _ (by decide +kernel)) (chkS rfl rfl rfl rfl) ?_
  refine Go_st rfl rfl ?_
  refine Go_ifT (by decide +kernel) ?_
  refine Go_st rfl rfl ?_
  refine Go_st rfl rfl ?_
  refine Go_st rfl rfl ?_
  refine Go_st rfl rfl ?_
  refine Go_st rfl rfl ?_
  refine Go_st rfl rfl ?_
  exact Go_ret rfl ⟨_, rfl, rfl⟩
set_option maxRecDepth 20000 in
set_option maxHeartbeats 4000000 in
theorem rm_X9_count_8 (c : Nat → pm_E) (d : Nat)  : pm_Rt pm_P (d + 2) 134 (hpm c) [.ref 77, .int 8] (hpm c) (some (.int 0)) := by
  refine Rt_of aiX9_count (Nat.le_of_ble_eq_true rfl) ?_
  refine Go_st rfl rfl ?_
  refine Go_st rfl rfl ?_
  refine Go_sm rfl rfl (sm_f rfl) ?_
  refine Go_st rfl rfl ?_
  refine Go_st rfl rfl ?_
  refine Go_st rfl rfl ?_
  refine Go_st rfl rfl ?_
  refine Go_call rfl (rm_in0 _ d _ _ _ (by decide +kernel)) (chkS rfl rfl rfl rfl) ?_
  refine Go_st rfl rfl ?_
  refine Go_ifT (by decide +kernel) ?_
  refine Go_st rfl rfl ?_
  refine Go_st rfl rfl ?_
  refine Go_st rfl rfl ?_
  refine Go_st rfl rfl ?_
  refine Go_st rfl rfl ?_
  refine Go_st rfl rfl ?_
  refine Go_st rfl rfl ?_
  refine Go_st rfl rfl ?_
  refine Go_st rfl rfl ?_
  refine Go_ifF (by decide +kernel) ?_
  refine Go_st rfl rfl ?_
  refine Go_st rfl rfl ?_
  refine Go_st rfl rfl ?_
  refine Go_st rfl rfl ?_
  refine Go_iald (v := -1) rfl rfl (by decide +kernel) (by decide +kernel) ?_
  refine Go_st rfl rfl ?_
  refine Go_st rfl rfl ?_
  refine Go_ifF (by decide +kernel) ?_
  refine Go_st rfl rfl ?_
  refine Go_st rfl rfl ?_
  refine Go_bin (v := 0) rfl (by decide +kernel) ?_
  refine Go_st rfl rfl ?_
  refine Go_inc (v := 1) rfl rfl (by decide +kernel) ?_
  refine Go_st rfl rfl ?_
  refine Go_st rfl rfl ?_
  refine Go_st rfl rfl ?_
  refine Go_st rfl rfl ?_
  refine Go_ifF (by decide +kernel) ?_
  refine Go_st rfl rfl ?_
  refine Go_st rfl rfl ?_
  refine Go_st rfl rfl ?_
  refine Go_st rfl rfl ?_
  refine Go_iald (v := -1) rfl rfl (by decide +kernel) (by decide +kernel) ?_
  refine Go_st rfl rfl ?_
  refine Go_st rfl rfl ?_
  refine Go_ifF (by decide +kernel) ?_
  refine Go_st rfl rfl ?_
  refine Go_st rfl rfl ?_
  refine Go_bin (v := 0) rfl (by decide +kernel) ?_
  refine Go_st rfl rfl ?_
  refine Go_inc (v := 2) rfl rfl (by decide +kernel) ?_
  refine Go_st rfl rfl ?_
  refine Go_st rfl rfl ?_
  refine Go_st rfl rfl ?_
  refine Go_st rfl rfl ?_
  refine Go_ifF (by decide +kernel) ?_
  refine Go_st rfl rfl ?_
  refine Go_st rfl rfl ?_
  refine Go_st rfl rfl ?_
  refine Go_st rfl rfl ?_
  refine Go_iald (v := -1) rfl rfl (by decide +kernel) (by decide +kernel) ?_
  refine Go_st rfl rfl ?_
  refine Go_st rfl rfl ?_
  refine Go_ifF (by decide +kernel) ?_
  refine Go_st rfl rfl ?_
  refine Go_st rfl rfl ?_
  refine Go_bin (v := 0) rfl (by decide +kernel) ?_
  refine Go_st rfl rfl ?_
  refine Go_inc (v := 3) rfl rfl (by decide +kernel) ?_
  refine Go_st rfl rfl ?_
  refine Go_st rfl rfl ?_
  refine Go_st rfl rfl ?_
  refine Go_st rfl rfl ?_
  refine Go_ifF (by decide +kernel) ?_
  refine Go_st rfl rfl ?_
  refine Go_st rfl rfl ?_
  refine Go_st rfl rfl ?_
  refine Go_st rfl rfl ?_
  refine Go_iald (v := -1) rfl rfl (by decide +kernel) (by decide +kernel) ?_
  refine Go_st rfl rfl ?_
  refine Go_st rfl rfl ?_
  refine Go_ifF (by decide +kernel) ?_
  refine Go_st rfl rfl ?_
  refine Go_st rfl rfl ?_
  refine Go_bin (v := 0) rfl (by decide +kernel) ?_
  refine Go_st rfl rfl ?_
  refine Go_inc (v := 4) rfl rfl (by decide +kernel) ?_
  refine Go_st rfl rfl ?_
  refine Go_st rfl rfl ?_
  refine Go_st rfl rfl ?_
  refine Go_st rfl rfl ?_
  refine Go_ifT (by decide +kernel) ?_
  refine Go_st rfl rfl ?_
  exact Go_ret rfl ⟨_, rfl, rfl⟩
set_option maxRecDepth 20000 in
set_option maxHeartbeats 4000000 in
theorem rx_X8_back_0 (d : Nat)  : pm_Rt pm_P (d + 1) 19 (hp0) [.ref 0, .int 0] (hp0) (some (.int (-6))) := by
  refine Rt_of aiX8_back (Nat.le_of_ble_eq_true rfl) ?_
  refine Go_st rfl rfl ?_
  refine Go_st rfl rfl ?_
  refine Go_ifF (by decide +kernel) ?_
  refine Go_st rfl rfl ?_
  refine Go_st rfl rfl ?_
  refine Go_st rfl rfl ?_
  refine Go_ifT (by decide +kernel) ?_
  refine Go_st rfl rfl ?_
  refine Go_st rfl rfl ?_
  refine Go_st rfl rfl ?_
  refine Go_zald (v := 0) rfl rfl (by decide +kernel) (by decide +kernel) ?_
  refine Go_st rfl rfl ?_
  refine Go_ifF (by decide +kernel) ?_
  refine Go_st rfl rfl ?_
  exact Go_ret rfl ⟨_, rfl, rfl⟩
set_option maxRecDepth 20000 in
set_option maxHeartbeats 4000000 in
theorem rx_X8_back_1 (d : Nat)  : pm_Rt pm_P (d + 1) 19 (hp0) [.ref 0, .int 1] (hp0) (some (.int (-6))) := by
  refine Rt_of aiX8_back (Nat.le_of_ble_eq_true rfl) ?_
  refine Go_st rfl rfl ?_
  refine Go_st rfl rfl ?_
  refine Go_ifF (by decide +kernel) ?_
  refine Go_st rfl rfl ?_
  refine Go_st rfl rfl ?_
  refine Go_st rfl rfl ?_
  refine Go_ifT (by decide +kernel) ?_
  refine Go_st rfl rfl ?_
  refine Go_st rfl rfl ?_
  refine Go_st rfl rfl ?_
  refine Go_zald (v := 0) rfl rfl (by decide +kernel) (by decide +kernel) ?_
  refine Go_st rfl rfl ?_
  refine Go_ifF (by decide +kernel) ?_
  refine Go_st rfl rfl ?_
  exact Go_ret rfl ⟨_, rfl, rfl⟩
set_option maxRecDepth 20000 in
set_option maxHeartbeats 4000000 in
theorem rx_X8_back_2 (d : Nat)  : pm_Rt pm_P (d + 1) 19 (hp0) [.ref 0, .int 2] (hp0) (some (.int (-6))) := by
  refine Rt_of aiX8_back (Nat.le_of_ble_eq_true rfl) ?_
  refine Go_st rfl rfl ?_
  refine Go_st rfl rfl ?_
  refine Go_ifF (by decide +kernel) ?_
  refine Go_st rfl rfl ?_
  refine Go_st rfl rfl ?_
  refine Go_st rfl rfl ?_
  refine Go_ifT (by decide +kernel) ?_
  refine Go_st rfl rfl ?_
  refine Go_st rfl rfl ?_
  refine Go_st rfl rfl ?_
  refine Go_zald (v := 0) rfl rfl (by decide +kernel) (by decide +kernel) ?_
  refine Go_st rfl rfl ?_
  refine Go_ifF (by decide +kernel) ?_
  refine Go_st rfl rfl ?_
  exact Go_ret rfl ⟨_, rfl, rfl⟩
set_option maxRecDepth 20000 in
set_option maxHeartbeats 4000000 in
theorem rm_X9_back_0 (c : Nat → pm_E) (d : Nat)  : pm_Rt pm_P (d + 2) 118 (hpm c) [.ref 77, .int 0] (hpm c) (some (.int (-6))) := by
  refine Rt_of aiX9_back (Nat.le_of_ble_eq_true rfl) ?_
  refine Go_st rfl rfl ?_
  refine Go_st rfl rfl ?_
  refine Go_sm rfl rfl (sm_f rfl) ?_
  refine Go_st rfl rfl ?_
  refine Go_st rfl rfl ?_
  refine Go_st rfl rfl ?_
  refine Go_st rfl rfl ?_
  refine Go_call rfl (rm_in1 _ d _ _ _ (by decide +kernel)) (chkS rfl rfl rfl rfl) ?_
  refine Go_st rfl rfl ?_
  refine Go_ifT (by decide +kernel) ?_
  refine Go_st rfl rfl ?_
  refine Go_st rfl rfl ?_
  refine Go_st rfl rfl ?_
  refine Go_zald (v := 0) rfl rfl (by decide +kernel) (by decide +kernel) ?_
  refine Go_st rfl rfl ?_
  refine Go_ifF (by decide +kernel) ?_
  refine Go_st rfl rfl ?_
  exact Go_ret rfl ⟨_, rfl, rfl⟩
set_option maxRecDepth 20000 in
set_option maxHeartbeats 4000000 in
theorem rm_X9_back_1 (c : Nat → pm_E) (d : Nat)  : pm_Rt pm_P (d + 2) 118 (hpm c) [.ref 77, .int 1] (hpm c) (some (.int (-6))) := by
  refine Rt_of aiX9_back (Nat.le_of_ble_eq_true rfl) ?_
  refine Go_st rfl rfl ?_
  refine Go_st rfl rfl ?_
  refine Go_sm rfl rfl (sm_f rfl) ?_
  refine Go_st rfl rfl ?_
  refine Go_st rfl rfl ?_
  refine Go_st rfl rfl ?_
  refine Go_st rfl rfl ?_
  refine Go_call rfl (rm_in1 _ d _ _ _ (by decide +kernel)) (chkS rfl rfl rfl rfl) ?_
  refine Go_st rfl rfl ?_
  refine Go_ifT (by decide +kernel) ?_
  refine Go_st rfl rfl ?_
  refine Go_st rfl rfl ?_
  refine Go_st rfl rfl ?_
  refine Go_zald (v := 0) rfl rfl (by decide +kernel) (by decide +kernel) ?_
  refine Go_st rfl rfl ?_
  refine Go_ifF (by decide +kernel) ?_
  refine Go_st rfl rfl ?_
  exact Go_ret rfl ⟨_, rfl, rfl⟩
set_option maxRecDepth 20000 in
set_option maxHeartbeats 4000000 in
theorem rm_X9_back_2 (c : Nat → pm_E) (d : Nat)  : pm_Rt pm_P (d + 2) 118 (hpm c) [.ref 77, .int 2] (hpm c) (some (.int (-6))) := by
  refine Rt_of aiX9_back (Nat.le_of_ble_eq_true rfl) ?_
  refine Go_st rfl rfl ?_
  refine Go_st rfl rfl ?_
  refine Go_sm rfl rfl (sm_f rfl) ?_
  refine Go_st rfl rfl ?_
  refine Go_st rfl rfl ?_
  refine Go_st rfl rfl ?_
  refine Go_st rfl rfl ?_
  refine Go_call rfl (rm_in1 _ d _ _ _ (by decide +kernel)) (chkS rfl rfl rfl rfl) ?_
  refine Go_st rfl rfl ?_
  refine Go_ifT (by decide +kernel) ?_
  refine Go_st rfl rfl ?_
  refine Go_st rfl rfl ?_
  refine Go_st rfl rfl ?_
  refine Go_zald (v := 0) rfl rfl (by decide +kernel) (by decide +kernel) ?_
  refine Go_st rfl rfl ?_
  refine Go_ifF (by decide +kernel) ?_
  refine Go_st rfl rfl ?_
  exact Go_ret rfl ⟨_, rfl, rfl⟩
set_option maxRecDepth 20000 in
set_option maxHeartbeats 4000000 in
theorem rx_X8_fault_0 (d : Nat)  : pm_Rt pm_P (d + 1) 36 (hp0) [.ref 0, .int 0] (hp0) (some (.int 0)) := by
  refine Rt_of aiX8_fault (Nat.le_of_ble_eq_true rfl) ?_
  refine Go_st rfl rfl ?_
  refine Go_st rfl rfl ?_
  refine Go_ifF (by decide +kernel) ?_
  refine Go_st rfl rfl ?_
  refine Go_st rfl rfl ?_
  refine Go_st rfl rfl ?_
  exact Go_ret rfl ⟨_, rfl, rfl⟩
set_option maxRecDepth 20000 in
set_option maxHeartbeats 4000000 in
theorem rx_X8_fault_1 (d : Nat)  : pm_Rt pm_P (d + 1) 36 (hp0) [.ref 0, .int 1] (hp0) (some (.int (-1))) := by
  refine Rt_of aiX8_fault (Nat.le_of_ble_eq_true rfl) ?_
  refine Go_st rfl rfl ?_
  refine Go_st rfl rfl ?_
  refine Go_ifT (by decide +kernel) ?_
  refine Go_st rfl rfl ?_
  refine Go_st rfl rfl ?_
  refine Go_st rfl rfl ?_
  refine Go_ifF (by decide +kernel) ?_
  refine Go_st rfl rfl ?_
  refine Go_st rfl rfl ?_
  refine Go_st rfl rfl ?_
  refine Go_st rfl rfl ?_
  exact Go_ret rfl ⟨_, rfl, rfl⟩
set_option maxRecDepth 20000 in
set_option maxHeartbeats 4000000 in
theorem rm_X9_fault_0 (c : Nat → pm_E) (d : Nat)  : pm_Rt pm_P (d + 1) 140 (hpm c) [.ref 77, .int 0] (hpm c) (some (.int 0)) := by
  refine Rt_of aiX9_fault (Nat.le_of_ble_eq_true rfl) ?_
  refine Go_st rfl rfl ?_
  refine Go_st rfl rfl ?_
  refine Go_sm rfl rfl (sm_f rfl) ?_
  refine Go_st rfl rfl ?_
  refine Go_st rfl rfl ?_
  refine Go_ifF (by decide +kernel) ?_
  refine Go_st rfl rfl ?_
  refine Go_st rfl rfl ?_
  refine Go_st rfl rfl ?_
  exact Go_ret rfl ⟨_, rfl, rfl⟩
set_option maxRecDepth 20000 in
set_option maxHeartbeats 4000000 in
theorem rm_X9_fault_1 (c : Nat → pm_E) (d : Nat)  : pm_Rt pm_P (d + 1) 140 (hpm c) [.ref 77, .int 1] (hpm c) (some (.int (-1))) := by
  refine Rt_of aiX9_fault (Nat.le_of_ble_eq_true rfl) ?_
  refine Go_st rfl rfl ?_
  refine Go_st rfl rfl ?_
  refine Go_sm rfl rfl (sm_f rfl) ?_
  refine Go_st rfl rfl ?_
  refine Go_st rfl rfl ?_
  refine Go_ifT (by decide +kernel) ?_
  refine Go_st rfl rfl ?_
  refine Go_st rfl rfl ?_
  refine Go_st rfl rfl ?_
  refine Go_ifF (by decide +kernel) ?_
  refine Go_st rfl rfl ?_
  refine Go_st rfl rfl ?_
  refine Go_st rfl rfl ?_
  exact Go_ret rfl ⟨_, rfl, rfl⟩
set_option maxRecDepth 20000 in
set_option maxHeartbeats 4000000 in
theorem rx_X8_end_0 (d : Nat)  : pm_Rt pm_P (d + 1) 33 (hp0) [.ref 0, .int 0] (hp0) (some (.int 0)) := by
  refine Rt_of aiX8_end (Nat.le_of_ble_eq_true rfl) ?_
  refine Go_st rfl rfl ?_
  refine Go_st rfl rfl ?_
  refine Go_ifF (by decide +kernel) ?_
  refine Go_st rfl rfl ?_
  refine Go_st rfl rfl ?_
  refine Go_st rfl rfl ?_
  refine Go_st rfl rfl ?_
  refine Go_st rfl rfl ?_
  refine Go_ifT (by decide +kernel) ?_
  refine Go_st rfl rfl ?_
  refine Go_st rfl rfl ?_
  refine Go_st rfl rfl ?_
  refine Go_sm rfl rfl (sm_f rfl) ?_
  refine Go_st rfl rfl ?_
  exact Go_ret rfl ⟨_, rfl, rfl⟩
set_option maxRecDepth 20000 in
set_option maxHeartbeats 4000000 in
theorem rm_X9_end_0 (c : Nat → pm_E) (d : Nat)  : pm_Rt pm_P (d + 2) 137 (hpm c) [.ref 77, .int 0] (hpm c) (some (.int 0)) := by
  refine Rt_of aiX9_end (Nat.le_of_ble_eq_true rfl) ?_
  refine Go_st rfl rfl ?_
  refine Go_st rfl rfl ?_
  refine Go_sm rfl rfl (sm_f rfl) ?_
  refine Go_st rfl rfl ?_
  refine Go_st rfl rfl ?_
  refine Go_st rfl rfl ?_
  refine Go_st rfl rfl ?_
  refine Go_st rfl rfl ?_
  refine Go_st rfl rfl ?_
  refine Go_call rfl (rm_in1 _ d _ _ _ (by decide +kernel)) (chkS rfl rfl rfl rfl) ?_
  refine Go_st rfl rfl ?_
  refine Go_ifT (by decide +kernel) ?_
  refine Go_st rfl rfl ?_
  refine Go_st rfl rfl ?_
  refine Go_sm rfl rfl (sm_f rfl) ?_
  refine Go_st rfl rfl ?_
  exact Go_ret rfl ⟨_, rfl, rfl⟩
set_option maxRecDepth 20000 in
set_option maxHeartbeats 4000000 in
theorem rx_X8_write_0_v_v (d : Nat) (a2 : Int32) (a3 : Int64) : pm_Rt pm_P (d + 2) 111 (hp0) [.ref 0, .int 0, .int a2, .long a3] (hp0) (some (.int (-6))) := by
  refine Rt_of aiX8_write (Nat.le_of_ble_eq_true rfl) ?_
  refine Go_st rfl rfl ?_
  refine Go_call rfl (rx_isSlot1 _ d _ (by decide +kernel) (by decide +kernel)) (chkS rfl rfl rfl rfl) ?_
  refine Go_st rfl rfl ?_
  refine Go_ifT (by decide +kernel) ?_
  refine Go_st rfl rfl ?_
  refine Go_st rfl rfl ?_
  refine Go_st rfl rfl ?_
  refine Go_aald (k := 54) rfl rfl rfl (by decide +kernel) (by decide +kernel) ?_
  refine Go_st rfl rfl ?_
  refine Go_st rfl rfl ?_
  refine Go_st rfl rfl ?_
  refine Go_st rfl rfl ?_
  refine Go_ifF (by decide +kernel) ?_
  refine Go_st rfl rfl ?_
  exact Go_ret rfl ⟨_, rfl, rfl⟩
set_option maxRecDepth 20000 in
set_option maxHeartbeats 4000000 in
theorem rx_X8_write_1_v_v (d : Nat) (a2 : Int32) (a3 : Int64) : pm_Rt pm_P (d + 2) 111 (hp0) [.ref 0, .int 1, .int a2, .long a3] (hp0) (some (.int (-6))) := by
  refine Rt_of aiX8_write (Nat.le_of_ble_eq_true rfl) ?_
  refine Go_st rfl rfl ?_
  refine Go_call rfl (rx_isSlot1 _ d _ (by decide +kernel) (by decide +kernel)) (chkS rfl rfl rfl rfl) ?_
  refine Go_st rfl rfl ?_
  refine Go_ifT (by decide +kernel) ?_
  refine Go_st rfl rfl ?_
  refine Go_st rfl rfl ?_
  refine Go_st rfl rfl ?_
  refine Go_aald (k := 56) rfl rfl rfl (by decide +kernel) (by decide +kernel) ?_
  refine Go_st rfl rfl ?_
  refine Go_st rfl rfl ?_
  refine Go_st rfl rfl ?_
  refine Go_st rfl rfl ?_
  refine Go_ifF (by decide +kernel) ?_
  refine Go_st rfl rfl ?_
  exact Go_ret rfl ⟨_, rfl, rfl⟩
set_option maxRecDepth 20000 in
set_option maxHeartbeats 4000000 in
theorem rx_X8_write_2_v_v (d : Nat) (a2 : Int32) (a3 : Int64) : pm_Rt pm_P (d + 2) 111 (hp0) [.ref 0, .int 2, .int a2, .long a3] (hp0) (some (.int (-6))) := by
  refine Rt_of aiX8_write (Nat.le_of_ble_eq_true rfl) ?_
  refine Go_st rfl rfl ?_
  refine Go_call rfl (rx_isSlot1 _ d _ (by decide +kernel) (by decide +kernel)) (chkS rfl rfl rfl rfl) ?_
  refine Go_st rfl rfl ?_
  refine Go_ifT (by decide +kernel) ?_
  refine Go_st rfl rfl ?_
  refine Go_st rfl rfl ?_
  refine Go_st rfl rfl ?_
  refine Go_aald (k := 58) rfl rfl rfl (by decide +kernel) (by decide +kernel) ?_
  refine Go_st rfl rfl ?_
  refine Go_st rfl rfl ?_
  refine Go_st rfl rfl ?_
  refine Go_st rfl rfl ?_
  refine Go_ifF (by decide +kernel) ?_
  refine Go_st rfl rfl ?_
  exact Go_ret rfl ⟨_, rfl, rfl⟩
set_option maxRecDepth 20000 in
set_option maxHeartbeats 4000000 in
theorem rx_X8_write_3_v_v (d : Nat) (a2 : Int32) (a3 : Int64) : pm_Rt pm_P (d + 2) 111 (hp0) [.ref 0, .int 3, .int a2, .long a3] (hp0) (some (.int (-6))) := by
  refine Rt_of aiX8_write (Nat.le_of_ble_eq_true rfl) ?_
  refine Go_st rfl rfl ?_
  refine Go_call rfl (rx_isSlot1 _ d _ (by decide +kernel) (by decide +kernel)) (chkS rfl rfl rfl rfl) ?_
  refine Go_st rfl rfl ?_
  refine Go_ifT (by decide +kernel) ?_
  refine Go_st rfl rfl ?_
  refine Go_st rfl rfl ?_
  refine Go_st rfl rfl ?_
  refine Go_aald (k := 60) rfl rfl rfl (by decide +kernel) (by decide +kernel) ?_
  refine Go_st rfl rfl ?_
  refine Go_st rfl rfl ?_
  refine Go_st rfl rfl ?_
  refine Go_st rfl rfl ?_
  refine Go_ifF (by decide +kernel) ?_
  refine Go_st rfl rfl ?_
  exact Go_ret rfl ⟨_, rfl, rfl⟩
set_option maxRecDepth 20000 in
set_option maxHeartbeats 4000000 in
theorem rm_X9_write_0_v_v (c : Nat → pm_E) (d : Nat) (a2 : Int32) (a3 : Int64) : pm_Rt pm_P (d + 3) 219 (hpm c) [.ref 77, .int 0, .int a2, .long a3] (hpm c) (some (.int (-6))) := by
  refine Rt_of aiX9_write (Nat.le_of_ble_eq_true rfl) ?_
  refine Go_st rfl rfl ?_
  refine Go_st rfl rfl ?_
  refine Go_sm rfl rfl (sm_f rfl) ?_
  refine Go_st rfl rfl ?_
  refine Go_call rfl (rm_isSlot1 _ d _ (by decide +kernel)) (chkS rfl rfl rfl rfl) ?_
  refine Go_st rfl rfl ?_
  refine Go_ifT (by decide +kernel) ?_
  refine Go_st rfl rfl ?_
  refine Go_st rfl rfl ?_
  refine Go_st rfl rfl ?_
  refine Go_iald (v := -1) rfl rfl (by decide +kernel) (by decide +kernel) ?_
  refine Go_st rfl rfl ?_
  refine Go_st rfl rfl ?_
  refine Go_ifF (by decide +kernel) ?_
  refine Go_st rfl rfl ?_
  exact Go_ret rfl ⟨_, rfl, rfl⟩
set_option maxRecDepth 20000 in
set_option maxHeartbeats 4000000 in
theorem rm_X9_write_1_v_v (c : Nat → pm_E) (d : Nat) (a2 : Int32) (a3 : Int64) : pm_Rt pm_P (d + 3) 219 (hpm c) [.ref 77, .int 1, .int a2, .long a3] (hpm c) (some (.int (-6))) := by
  refine Rt_of aiX9_write (Nat.le_of_ble_eq_true rfl) ?_
  refine Go_st rfl rfl ?_
  refine Go_st rfl rfl ?_
  refine Go_sm rfl rfl (sm_f rfl) ?_
  refine Go_st rfl rfl ?_
  refine Go_call rfl (rm_isSlot1 _ d _ (by decide +kernel)) (chkS rfl rfl rfl rfl) ?_
  refine Go_st rfl rfl ?_
  refine Go_ifT (by decide +kernel) ?_
  refine Go_st rfl rfl ?_
  refine Go_st rfl rfl ?_
  refine Go_st rfl rfl ?_
  refine Go_iald (v := -1) rfl rfl (by decide +kernel) (by decide +kernel) ?_
  refine Go_st rfl rfl ?_
  refine Go_st rfl rfl ?_
  refine Go_ifF (by decide +kernel) ?_
  refine Go_st rfl rfl ?_
  exact Go_ret rfl ⟨_, rfl, rfl⟩
set_option maxRecDepth 20000 in
set_option maxHeartbeats 4000000 in
theorem rm_X9_write_2_v_v (c : Nat → pm_E) (d : Nat) (a2 : Int32) (a3 : Int64) : pm_Rt pm_P (d + 3) 219 (hpm c) [.ref 77, .int 2, .int a2, .long a3] (hpm c) (some (.int (-6))) := by
  refine Rt_of aiX9_write (Nat.le_of_ble_eq_true rfl) ?_
  refine Go_st rfl rfl ?_
  refine Go_st rfl rfl ?_
  refine Go_sm rfl rfl (sm_f rfl) ?_
  refine Go_st rfl rfl ?_
  refine Go_call rfl (rm_isSlot1 _ d _ (by decide +kernel)) (chkS rfl rfl rfl rfl) ?_
  refine Go_st rfl rfl ?_
  refine Go_ifT (by decide +kernel) ?_
  refine Go_st rfl rfl ?_
  refine Go_st rfl rfl ?_
  refine Go_st rfl rfl ?_
  refine Go_iald (v := -1) rfl rfl (by decide +kernel) (by decide +kernel) ?_
  refine Go_st rfl rfl ?_
  refine Go_st rfl rfl ?_
  refine Go_ifF (by decide +kernel) ?_
  refine Go_st rfl rfl ?_
  exact Go_ret rfl ⟨_, rfl, rfl⟩
set_option maxRecDepth 20000 in
set_option maxHeartbeats 4000000 in
theorem rm_X9_write_3_v_v (c : Nat → pm_E) (d : Nat) (a2 : Int32) (a3 : Int64) : pm_Rt pm_P (d + 3) 219 (hpm c) [.ref 77, .int 3, .int a2, .long a3] (hpm c) (some (.int (-6))) := by
  refine Rt_of aiX9_write (Nat.le_of_ble_eq_true rfl) ?_
  refine Go_st rfl rfl ?_
  refine Go_st rfl rfl ?_
  refine Go_sm rfl rfl (sm_f rfl) ?_
  refine Go_st rfl rfl ?_
  refine Go_call rfl (rm_isSlot1 _ d _ (by decide +kernel)) (chkS rfl rfl rfl rfl) ?_
  refine Go_st rfl rfl ?_
  refine Go_ifT (by decide +kernel) ?_
  refine Go_st rfl rfl ?_
  refine Go_st rfl rfl ?_
  refine Go_st rfl rfl ?_
  refine Go_iald (v := -1) rfl rfl (by decide +kernel) (by decide +kernel) ?_
  refine Go_st rfl rfl ?_
  refine Go_st rfl rfl ?_
  refine Go_ifF (by decide +kernel) ?_
  refine Go_st rfl rfl ?_
  exact Go_ret rfl ⟨_, rfl, rfl⟩
set_option maxRecDepth 20000 in
set_option maxHeartbeats 4000000 in
theorem rx_X8_paste_0_v_0_v_v (d : Nat) (a2 : Int32) (a4 : Int32) (a5 : Int32) : pm_Rt pm_P (d + 2) 74 (hp0) [.ref 0, .int 0, .int a2, .int 0, .int a4, .int a5] (hp0) (some (.int (-6))) := by
  refine Rt_of aiX8_paste (Nat.le_of_ble_eq_true rfl) ?_
  refine Go_st rfl rfl ?_
  refine Go_call rfl (rx_isSlot1 _ d _ (by decide +kernel) (by decide +kernel)) (chkS rfl rfl rfl rfl) ?_
  refine Go_st rfl rfl ?_
  refine Go_ifF (by decide +kernel) ?_
  refine Go_st rfl rfl ?_
  refine Go_call rfl (rx_isSlot1 _ d _ (by decide +kernel) (by decide +kernel)) (chkS rfl rfl rfl rfl) ?_
  refine Go_st rfl rfl ?_
  refine Go_ifT (by decide +kernel) ?_
  refine Go_st rfl rfl ?_
  refine Go_st rfl rfl ?_
  refine Go_st rfl rfl ?_
  refine Go_aald (k := 54) rfl rfl rfl (by decide +kernel) (by decide +kernel) ?_
  refine Go_st rfl rfl ?_
  refine Go_st rfl rfl ?_
  refine Go_st rfl rfl ?_
  refine Go_st rfl rfl ?_
  refine Go_aald (k := 54) rfl rfl rfl (by decide +kernel) (by decide +kernel) ?_
  refine Go_st rfl rfl ?_
  refine Go_st rfl rfl ?_
  refine Go_st rfl rfl ?_
  refine Go_st rfl rfl ?_
  refine Go_ifT (by decide +kernel) ?_
  refine Go_st rfl rfl ?_
  exact Go_ret rfl ⟨_, rfl, rfl⟩
set_option maxRecDepth 20000 in
set_option maxHeartbeats 4000000 in
theorem rx_X8_paste_0_v_1_v_v (d : Nat) (a2 : Int32) (a4 : Int32) (a5 : Int32) : pm_Rt pm_P (d + 2) 74 (hp0) [.ref 0, .int 0, .int a2, .int 1, .int a4, .int a5] (hp0) (some (.int (-6))) := by
  refine Rt_of aiX8_paste (Nat.le_of_ble_eq_true rfl) ?_
  refine Go_st rfl rfl ?_
  refine Go_call rfl (rx_isSlot1 _ d _ (by decide +kernel) (by decide +kernel)) (chkS rfl rfl rfl rfl) ?_
  refine Go_st rfl rfl ?_
  refine Go_ifF (by decide +kernel) ?_
  refine Go_st rfl rfl ?_
  refine Go_call rfl (rx_isSlot1 _ d _ (by decide +kernel) (by decide +kernel)) (chkS rfl rfl rfl rfl) ?_
  refine Go_st rfl rfl ?_
  refine Go_ifT (by decide +kernel) ?_
  refine Go_st rfl rfl ?_
  refine Go_st rfl rfl ?_
  refine Go_st rfl rfl ?_
  refine Go_aald (k := 54) rfl rfl rfl (by decide +kernel) (by decide +kernel) ?_
  refine Go_st rfl rfl ?_
  refine Go_st rfl rfl ?_
  refine Go_st rfl rfl ?_
  refine Go_st rfl rfl ?_
  refine Go_aald (k := 56) rfl rfl rfl (by decide +kernel) (by decide +kernel) ?_
  refine Go_st rfl rfl ?_
  refine Go_st rfl rfl ?_
  refine Go_st rfl rfl ?_
  refine Go_st rfl rfl ?_
  refine Go_ifT (by decide +kernel) ?_
  refine Go_st rfl rfl ?_
  exact Go_ret rfl ⟨_, rfl, rfl⟩
set_option maxRecDepth 20000 in
set_option maxHeartbeats 4000000 in
theorem rx_X8_paste_0_v_2_v_v (d : Nat) (a2 : Int32) (a4 : Int32) (a5 : Int32) : pm_Rt pm_P (d + 2) 74 (hp0) [.ref 0, .int 0, .int a2, .int 2, .int a4, .int a5] (hp0) (some (.int (-6))) := by
  refine Rt_of aiX8_paste (Nat.le_of_ble_eq_true rfl) ?_
  refine Go_st rfl rfl ?_
  refine Go_call rfl (rx_isSlot1 _ d _ (by decide +kernel) (by decide +kernel)) (chkS rfl rfl rfl rfl) ?_
  refine Go_st rfl rfl ?_
  refine Go_ifF (by decide +kernel) ?_
  refine Go_st rfl rfl ?_
  refine Go_call rfl (rx_isSlot1 _ d _ (by decide +kernel) (by decide +kernel)) (chkS rfl rfl rfl rfl) ?_
  refine Go_st rfl rfl ?_
  refine Go_ifT (by decide +kernel) ?_
  refine Go_st rfl rfl ?_
  refine Go_st rfl rfl ?_
  refine Go_st rfl rfl ?_
  refine Go_aald (k := 54) rfl rfl rfl (by decide +kernel) (by decide +kernel) ?_
  refine Go_st rfl rfl ?_
  refine Go_st rfl rfl ?_
  refine Go_st rfl rfl ?_
  refine Go_st rfl rfl ?_
  refine Go_aald (k := 58) rfl rfl rfl (by decide +kernel) (by decide +kernel) ?_
  refine Go_st rfl rfl ?_
  refine Go_st rfl rfl ?_
  refine Go_st rfl rfl ?_
  refine Go_st rfl rfl ?_
  refine Go_ifT (by decide +kernel) ?_
  refine Go_st rfl rfl ?_
  exact Go_ret rfl ⟨_, rfl, rfl⟩
set_option maxRecDepth 20000 in
set_option maxHeartbeats 4000000 in
theorem rx_X8_paste_0_v_3_v_v (d : Nat) (a2 : Int32) (a4 : Int32) (a5 : Int32) : pm_Rt pm_P (d + 2) 74 (hp0) [.ref 0, .int 0, .int a2, .int 3, .int a4, .int a5] (hp0) (some (.int (-6))) := by
  refine Rt_of aiX8_paste (Nat.le_of_ble_eq_true rfl) ?_
  refine Go_st rfl rfl ?_
  refine Go_call rfl (rx_isSlot1 _ d _ (by decide +kernel) (by decide +kernel)) (chkS rfl rfl rfl rfl) ?_
  refine Go_st rfl rfl ?_
  refine Go_ifF (by decide +kernel) ?_
  refine Go_st rfl rfl ?_
  refine Go_call rfl (rx_isSlot1 _ d _ (by decide +kernel) (by decide +kernel)) (chkS rfl rfl rfl rfl) ?_
  refine Go_st rfl rfl ?_
  refine Go_ifT (by decide +kernel) ?_
  refine Go_st rfl rfl ?_
  refine Go_st rfl rfl ?_
  refine Go_st rfl rfl ?_
  refine Go_aald (k := 54) rfl rfl rfl (by decide +kernel) (by decide +kernel) ?_
  refine Go_st rfl rfl ?_
  refine Go_st rfl rfl ?_
  refine Go_st rfl rfl ?_
  refine Go_st rfl rfl ?_
  refine Go_aald (k := 60) rfl rfl rfl (by decide +kernel) (by decide +kernel) ?_
  refine Go_st rfl rfl ?_
  refine Go_st rfl rfl ?_
  refine Go_st rfl rfl ?_
  refine Go_st rfl rfl ?_
  refine Go_ifT (by decide +kernel) ?_
  refine Go_st rfl rfl ?_
  exact Go_ret rfl ⟨_, rfl, rfl⟩
set_option maxRecDepth 20000 in
set_option maxHeartbeats 4000000 in
theorem rx_X8_paste_1_v_0_v_v (d : Nat) (a2 : Int32) (a4 : Int32) (a5 : Int32) : pm_Rt pm_P (d + 2) 74 (hp0) [.ref 0, .int 1, .int a2, .int 0, .int a4, .int a5] (hp0) (some (.int (-6))) := by
  refine Rt_of aiX8_paste (Nat.le_of_ble_eq_true rfl) ?_
  refine Go_st rfl rfl ?_
  refine Go_call rfl (rx_isSlot1 _ d _ (by decide +kernel) (by decide +kernel)) (chkS rfl rfl rfl rfl) ?_
  refine Go_st rfl rfl ?_
  refine Go_ifF (by decide +kernel) ?_
  refine Go_st rfl rfl ?_
  refine Go_call rfl (rx_isSlot1 _ d _ (by decide +kernel) (by decide +kernel)) (chkS rfl rfl rfl rfl) ?_
  refine Go_st rfl rfl ?_
  refine Go_ifT (by decide +kernel) ?_
  refine Go_st rfl rfl ?_
  refine Go_st rfl rfl ?_
  refine Go_st rfl rfl ?_
  refine Go_aald (k := 56) rfl rfl rfl (by decide +kernel) (by decide +kernel) ?_
  refine Go_st rfl rfl ?_
  refine Go_st rfl rfl ?_
  refine Go_st rfl rfl ?_
  refine Go_st rfl rfl ?_
  refine Go_aald (k := 54) rfl rfl rfl (by decide +kernel) (by decide +kernel) ?_
  refine Go_st rfl rfl ?_
  refine Go_st rfl rfl ?_
  refine Go_st rfl rfl ?_
  refine Go_st rfl rfl ?_
  refine Go_ifT (by decide +kernel) ?_
  refine Go_st rfl rfl ?_
  exact Go_ret rfl ⟨_, rfl, rfl⟩
set_option maxRecDepth 20000 in
set_option maxHeartbeats 4000000 in
theorem rx_X8_paste_1_v_1_v_v (d : Nat) (a2 : Int32) (a4 : Int32) (a5 : Int32) : pm_Rt pm_P (d + 2) 74 (hp0) [.ref 0, .int 1, .int a2, .int 1, .int a4, .int a5] (hp0) (some (.int (-6))) := by
  refine Rt_of aiX8_paste (Nat.le_of_ble_eq_true rfl) ?_
  refine Go_st rfl rfl ?_
  refine Go_call rfl (rx_isSlot1 _ d _ (by decide +kernel) (by decide +kernel)) (chkS rfl rfl rfl rfl) ?_
  refine Go_st rfl rfl ?_
  refine Go_ifF (by decide +kernel) ?_
  refine Go_st rfl rfl ?_
  refine Go_call rfl (rx_isSlot1 _ d _ (by decide +kernel) (by decide +kernel)) (chkS rfl rfl rfl rfl) ?_
  refine Go_st rfl rfl ?_
  refine Go_ifT (by decide +kernel) ?_
  refine Go_st rfl rfl ?_
  refine Go_st rfl rfl ?_
  refine Go_st rfl rfl ?_
  refine Go_aald (k := 56) rfl rfl rfl (by decide +kernel) (by decide +kernel) ?_
  refine Go_st rfl rfl ?_
  refine Go_st rfl rfl ?_
  refine Go_st rfl rfl ?_
  refine Go_st rfl rfl ?_
  refine Go_aald (k := 56) rfl rfl rfl (by decide +kernel) (by decide +kernel) ?_
  refine Go_st rfl rfl ?_
  refine Go_st rfl rfl ?_
  refine Go_st rfl rfl ?_
  refine Go_st rfl rfl ?_
  refine Go_ifT (by decide +kernel) ?_
  refine Go_st rfl rfl ?_
  exact Go_ret rfl ⟨_, rfl, rfl⟩
set_option maxRecDepth 20000 in
set_option maxHeartbeats 4000000 in
theorem rx_X8_paste_1_v_2_v_v (d : Nat) (a2 : Int32) (a4 : Int32) (a5 : Int32) : pm_Rt pm_P (d + 2) 74 (hp0) [.ref 0, .int 1, .int a2, .int 2, .int a4, .int a5] (hp0) (some (.int (-6))) := by
  refine Rt_of aiX8_paste (Nat.le_of_ble_eq_true rfl) ?_
  refine Go_st rfl rfl ?_
  refine Go_call rfl (rx_isSlot1 _ d _ (by decide +kernel) (by decide +kernel)) (chkS rfl rfl rfl rfl) ?_
  refine Go_st rfl rfl ?_
  refine Go_ifF (by decide +kernel) ?_
  refine Go_st rfl rfl ?_
  refine Go_call rfl (rx_isSlot1 _ d _ (by decide +kernel) (by decide +kernel)) (chkS rfl rfl rfl rfl) ?_
  refine Go_st rfl rfl ?_
  refine Go_ifT (by decide +kernel) ?_
  refine Go_st rfl rfl ?_
  refine Go_st rfl rfl ?_
  refine Go_st rfl rfl ?_
  refine Go_aald (k := 56) rfl rfl rfl (by decide +kernel) (by decide +kernel) ?_
  refine Go_st rfl rfl ?_
  refine Go_st rfl rfl ?_
  refine Go_st rfl rfl ?_
  refine Go_st rfl rfl ?_
  refine Go_aald (k := 58) rfl rfl rfl (by decide +kernel) (by decide +kernel) ?_
  refine Go_st rfl rfl ?_
  refine Go_st rfl rfl ?_
  refine Go_st rfl rfl ?_
  refine Go_st rfl rfl ?_
  refine Go_ifT (by decide +kernel) ?_
  refine Go_st rfl rfl ?_
  exact Go_ret rfl ⟨_, rfl, rfl⟩
set_option maxRecDepth 20000 in
set_option maxHeartbeats 4000000 in
theorem rx_X8_paste_1_v_3_v_v (d : Nat) (a2 : Int32) (a4 : Int32) (a5 : Int32) : pm_Rt pm_P (d + 2) 74 (hp0) [.ref 0, .int 1, .int a2, .int 3, .int a4, .int a5] (hp0) (some (.int (-6))) := by
  refine Rt_of aiX8_paste (Nat.le_of_ble_eq_true rfl) ?_
  refine Go_st rfl rfl ?_
  refine Go_call rfl (rx_isSlot1 _ d _ (by decide +kernel) (by decide +kernel)) (chkS rfl rfl rfl rfl) ?_
  refine Go_st rfl rfl ?_
  refine Go_ifF (by decide +kernel) ?_
  refine Go_st rfl rfl ?_
  refine Go_call rfl (rx_isSlot1 _ d _ (by decide +kernel) (by decide +kernel)) (chkS rfl rfl rfl rfl) ?_
  refine Go_st rfl rfl ?_
  refine Go_ifT (by decide +kernel) ?_
  refine Go_st rfl rfl ?_
  refine Go_st rfl rfl ?_
  refine Go_st rfl rfl ?_
  refine Go_aald (k := 56) rfl rfl rfl (by decide +kernel) (by decide +kernel) ?_
  refine Go_st rfl rfl ?_
  refine Go_st rfl rfl ?_
  refine Go_st rfl rfl ?_
  refine Go_st rfl rfl ?_
  refine Go_aald (k := 60) rfl rfl rfl (by decide +kernel) (by decide +kernel) ?_
  refine Go_st rfl rfl ?_
  refine Go_st rfl rfl ?_
  refine Go_st rfl rfl ?_
  refine Go_st rfl rfl ?_
  refine Go_ifT (by decide +kernel) ?_
  refine Go_st rfl rfl ?_
  exact Go_ret rfl ⟨_, rfl, rfl⟩
set_option maxRecDepth 20000 in
set_option maxHeartbeats 4000000 in
theorem rx_X8_paste_2_v_0_v_v (d : Nat) (a2 : Int32) (a4 : Int32) (a5 : Int32) : pm_Rt pm_P (d + 2) 74 (hp0) [.ref 0, .int 2, .int a2, .int 0, .int a4, .int a5] (hp0) (some (.int (-6))) := by
  refine Rt_of aiX8_paste (Nat.le_of_ble_eq_true rfl) ?_
  refine Go_st rfl rfl ?_
  refine Go_call rfl (rx_isSlot1 _ d _ (by decide +kernel) (by decide +kernel)) (chkS rfl rfl rfl rfl) ?_
  refine Go_st rfl rfl ?_
  refine Go_ifF (by decide +kernel) ?_
  refine Go_st rfl rfl ?_
  refine Go_call rfl (rx_isSlot1 _ d _ (by decide +kernel) (by decide +kernel)) (chkS rfl rfl rfl rfl) ?_
  refine Go_st rfl rfl ?_
  refine Go_ifT (by decide +kernel) ?_
  refine Go_st rfl rfl ?_
  refine Go_st rfl rfl ?_
  refine Go_st rfl rfl ?_
  refine Go_aald (k := 58) rfl rfl rfl (by decide +kernel) (by decide +kernel) ?_
  refine Go_st rfl rfl ?_
  refine Go_st rfl rfl ?_
  refine Go_st rfl rfl ?_
  refine Go_st rfl rfl ?_
  refine Go_aald (k := 54) rfl rfl rfl (by decide +kernel) (by decide +kernel) ?_
  refine Go_st rfl rfl ?_
  refine Go_st rfl rfl ?_
  refine Go_st rfl rfl ?_
  refine Go_st rfl rfl ?_
  refine Go_ifT (by decide +kernel) ?_
  refine Go_st rfl rfl ?_
  exact Go_ret rfl ⟨_, rfl, rfl⟩
set_option maxRecDepth 20000 in
set_option maxHeartbeats 4000000 in
theorem rx_X8_paste_2_v_1_v_v (d : Nat) (a2 : Int32) (a4 : Int32) (a5 : Int32) : pm_Rt pm_P (d + 2) 74 (hp0) [.ref 0, .int 2, .int a2, .int 1, .int a4, .int a5] (hp0) (some (.int (-6))) := by
  refine Rt_of aiX8_paste (Nat.le_of_ble_eq_true rfl) ?_
  refine Go_st rfl rfl ?_
  refine Go_call rfl (rx_isSlot1 _ d _ (by decide +kernel) (by decide +kernel)) (chkS rfl rfl rfl rfl) ?_
  refine Go_st rfl rfl ?_
  refine Go_ifF (by decide +kernel) ?_
  refine Go_st rfl rfl ?_
  refine Go_call rfl (rx_isSlot1 _ d _ (by decide +kernel) (by decide +kernel)) (chkS rfl rfl rfl rfl) ?_
  refine Go_st rfl rfl ?_
  refine Go_ifT (by decide +kernel) ?_
  refine Go_st rfl rfl ?_
  refine Go_st rfl rfl ?_
  refine Go_st rfl rfl ?_
  refine Go_aald (k := 58) rfl rfl rfl (by decide +kernel) (by decide +kernel) ?_
  refine Go_st rfl rfl ?_
  refine Go_st rfl rfl ?_
  refine Go_st rfl rfl ?_
  refine Go_st rfl rfl ?_
  refine Go_aald (k := 56) rfl rfl rfl (by decide +kernel) (by decide +kernel) ?_
  refine Go_st rfl rfl ?_
  refine Go_st rfl rfl ?_
  refine Go_st rfl rfl ?_
  refine Go_st rfl rfl ?_
  refine Go_ifT (by decide +kernel) ?_
  refine Go_st rfl rfl ?_
  exact Go_ret rfl ⟨_, rfl, rfl⟩
set_option maxRecDepth 20000 in
set_option maxHeartbeats 4000000 in
theorem rx_X8_paste_2_v_2_v_v (d : Nat) (a2 : Int32) (a4 : Int32) (a5 : Int32) : pm_Rt pm_P (d + 2) 74 (hp0) [.ref 0, .int 2, .int a2, .int 2, .int a4, .int a5] (hp0) (some (.int (-6))) := by
  refine Rt_of aiX8_paste (Nat.le_of_ble_eq_true rfl) ?_
  refine Go_st rfl rfl ?_
  refine Go_call rfl (rx_isSlot1 _ d _ (by decide +kernel) (by decide +kernel)) (chkS rfl rfl rfl rfl) ?_
  refine Go_st rfl rfl ?_
  refine Go_ifF (by decide +kernel) ?_
  refine Go_st rfl rfl ?_
  refine Go_call rfl (rx_isSlot1 _ d _ (by decide +kernel) (by decide +kernel)) (chkS rfl rfl rfl rfl) ?_
  refine Go_st rfl rfl ?_
  refine Go_ifT (by decide +kernel) ?_
  refine Go_st rfl rfl ?_
  refine Go_st rfl rfl ?_
  refine Go_st rfl rfl ?_
  refine Go_aald (k := 58) rfl rfl rfl (by decide +kernel) (by decide +kernel) ?_
  refine Go_st rfl rfl ?_
  refine Go_st rfl rfl ?_
  refine Go_st rfl rfl ?_
  refine Go_st rfl rfl ?_
  refine Go_aald (k := 58) rfl rfl rfl (by decide +kernel) (by decide +kernel) ?_
  refine Go_st rfl rfl ?_
  refine Go_st rfl rfl ?_
  refine Go_st rfl rfl ?_
  refine Go_st rfl rfl ?_
  refine Go_ifT (by decide +kernel) ?_
  refine Go_st rfl rfl ?_
  exact Go_ret rfl ⟨_, rfl, rfl⟩
set_option maxRecDepth 20000 in
set_option maxHeartbeats 4000000 in
theorem rx_X8_paste_2_v_3_v_v (d : Nat) (a2 : Int32) (a4 : Int32) (a5 : Int32) : pm_Rt pm_P (d + 2) 74 (hp0) [.ref 0, .int 2, .int a2, .int 3, .int a4, .int a5] (hp0) (some (.int (-6))) := by
  refine Rt_of aiX8_paste (Nat.le_of_ble_eq_true rfl) ?_
  refine Go_st rfl rfl ?_
  refine Go_call rfl (rx_isSlot1 _ d _ (by decide +kernel) (by decide +kernel)) (chkS rfl rfl rfl rfl) ?_
  refine Go_st rfl rfl ?_
  refine Go_ifF (by decide +kernel) ?_
  refine Go_st rfl rfl ?_
  refine Go_call rfl (rx_isSlot1 _ d _ (by decide +kernel) (by decide +kernel)) (chkS rfl rfl rfl rfl) ?_
  refine Go_st rfl rfl ?_
  refine Go_ifT (by decide +kernel) ?_
  refine Go_st rfl rfl ?_
  refine Go_st rfl rfl ?_
  refine Go_st rfl rfl ?_
  refine Go_aald (k := 58) rfl rfl rfl (by decide +kernel) (by decide +kernel) ?_
  refine Go_st rfl rfl ?_
  refine Go_st rfl rfl ?_
  refine Go_st rfl rfl ?_
  refine Go_st rfl rfl ?_
  refine Go_aald (k := 60) rfl rfl rfl (by decide +kernel) (by decide +kernel) ?_
  refine Go_st rfl rfl ?_
  refine Go_st rfl rfl ?_
  refine Go_st rfl rfl ?_
  refine Go_st rfl rfl ?_
  refine Go_ifT (by decide +kernel) ?_
  refine Go_st rfl rfl ?_
  exact Go_ret rfl ⟨_, rfl, rfl⟩
set_option maxRecDepth 20000 in
set_option maxHeartbeats 4000000 in
theorem rx_X8_paste_3_v_0_v_v (d : Nat) (a2 : Int32) (a4 : Int32) (a5 : Int32) : pm_Rt pm_P (d + 2) 74 (hp0) [.ref 0, .int 3, .int a2, .int 0, .int a4, .int a5] (hp0) (some (.int (-6))) := by
  refine Rt_of aiX8_paste (Nat.le_of_ble_eq_true rfl) ?_
  refine Go_st rfl rfl ?_
  refine Go_call rfl (rx_isSlot1 _ d _ (by decide +kernel) (by decide +kernel)) (chkS rfl rfl rfl rfl) ?_
  refine Go_st rfl rfl ?_
  refine Go_ifF (by decide +kernel) ?_
  refine Go_st rfl rfl ?_
  refine Go_call rfl (rx_isSlot1 _ d _ (by decide +kernel) (by decide +kernel)) (chkS rfl rfl rfl rfl) ?_
  refine Go_st rfl rfl ?_
  refine Go_ifT (by decide +kernel) ?_
  refine Go_st rfl rfl ?_
  refine Go_st rfl rfl ?_
  refine Go_st rfl rfl ?_
  refine Go_aald (k := 60) rfl rfl rfl (by decide +kernel) (by decide +kernel) ?_
  refine Go_st rfl rfl ?_
  refine Go_st rfl rfl ?_
  refine Go_st rfl rfl ?_
  refine Go_st rfl rfl ?_
  refine Go_aald (k := 54) rfl rfl rfl (by decide +kernel) (by decide +kernel) ?_
  refine Go_st rfl rfl ?_
  refine Go_st rfl rfl ?_
  refine Go_st rfl rfl ?_
  refine Go_st rfl rfl ?_
  refine Go_ifT (by decide +kernel) ?_
  refine Go_st rfl rfl ?_
  exact Go_ret rfl ⟨_, rfl, rfl⟩
set_option maxRecDepth 20000 in
set_option maxHeartbeats 4000000 in
theorem rx_X8_paste_3_v_1_v_v (d : Nat) (a2 : Int32) (a4 : Int32) (a5 : Int32) : pm_Rt pm_P (d + 2) 74 (hp0) [.ref 0, .int 3, .int a2, .int 1, .int a4, .int a5] (hp0) (some (.int (-6))) := by
  refine Rt_of aiX8_paste (Nat.le_of_ble_eq_true rfl) ?_
  refine Go_st rfl rfl ?_
  refine Go_call rfl (rx_isSlot1 _ d _ (by decide +kernel) (by decide +kernel)) (chkS rfl rfl rfl rfl) ?_
  refine Go_st rfl rfl ?_
  refine Go_ifF (by decide +kernel) ?_
  refine Go_st rfl rfl ?_
  refine Go_call rfl (rx_isSlot1 _ d _ (by decide +kernel) (by decide +kernel)) (chkS rfl rfl rfl rfl) ?_
  refine Go_st rfl rfl ?_
  refine Go_ifT (by decide +kernel) ?_
  refine Go_st rfl rfl ?_
  refine Go_st rfl rfl ?_
  refine Go_st rfl rfl ?_
  refine Go_aald (k := 60) rfl rfl rfl (by decide +kernel) (by decide +kernel) ?_
  refine Go_st rfl rfl ?_
  refine Go_st rfl rfl ?_
  refine Go_st rfl rfl ?_
  refine Go_st rfl rfl ?_
  refine Go_aald (k := 56) rfl rfl rfl (by decide +kernel) (by decide +kernel) ?_
  refine Go_st rfl rfl ?_
  refine Go_st rfl rfl ?_
  refine Go_st rfl rfl ?_
  refine Go_st rfl rfl ?_
  refine Go_ifT (by decide +kernel) ?_
  refine Go_st rfl rfl ?_
  exact Go_ret rfl ⟨_, rfl, rfl⟩
set_option maxRecDepth 20000 in
set_option maxHeartbeats 4000000 in
theorem rx_X8_paste_3_v_2_v_v (d : Nat) (a2 : Int32) (a4 : Int32) (a5 : Int32) : pm_Rt pm_P (d + 2) 74 (hp0) [.ref 0, .int 3, .int a2, .int 2, .int a4, .int a5] (hp0) (some (.int (-6))) := by
  refine Rt_of aiX8_paste (Nat.le_of_ble_eq_true rfl) ?_
  refine Go_st rfl rfl ?_
  refine Go_call rfl (rx_isSlot1 _ d _ (by decide +kernel) (by decide +kernel)) (chkS rfl rfl rfl rfl) ?_
  refine Go_st rfl rfl ?_
  refine Go_ifF (by decide +kernel) ?_
  refine Go_st rfl rfl ?_
  refine Go_call rfl (rx_isSlot1 _ d _ (by decide +kernel) (by decide +kernel)) (chkS rfl rfl rfl rfl) ?_
  refine Go_st rfl rfl ?_
  refine Go_ifT (by decide +kernel) ?_
  refine Go_st rfl rfl ?_
  refine Go_st rfl rfl ?_
  refine Go_st rfl rfl ?_
  refine Go_aald (k := 60) rfl rfl rfl (by decide +kernel) (by decide +kernel) ?_
  refine Go_st rfl rfl ?_
  refine Go_st rfl rfl ?_
  refine Go_st rfl rfl ?_
  refine Go_st rfl rfl ?_
  refine Go_aald (k := 58) rfl rfl rfl (by decide +kernel) (by decide +kernel) ?_
  refine Go_st rfl rfl ?_
  refine Go_st rfl rfl ?_
  refine Go_st rfl rfl ?_
  refine Go_st rfl rfl ?_
  refine Go_ifT (by decide +kernel) ?_
  refine Go_st rfl rfl ?_
  exact Go_ret rfl ⟨_, rfl, rfl⟩
set_option maxRecDepth 20000 in
set_option maxHeartbeats 4000000 in
theorem rx_X8_paste_3_v_3_v_v (d : Nat) (a2 : Int32) (a4 : Int32) (a5 : Int32) : pm_Rt pm_P (d + 2) 74 (hp0) [.ref 0, .int 3, .int a2, .int 3, .int a4, .int a5] (hp0) (some (.int (-6))) := by
  refine Rt_of aiX8_paste (Nat.le_of_ble_eq_true rfl) ?_
  refine Go_st rfl rfl ?_
  refine Go_call rfl (rx_isSlot1 _ d _ (by decide +kernel) (by decide +kernel)) (chkS rfl rfl rfl rfl) ?_
  refine Go_st rfl rfl ?_
  refine Go_ifF (by decide +kernel) ?_
  refine Go_st rfl rfl ?_
  refine Go_call rfl (rx_isSlot1 _ d _ (by decide +kernel) (by decide +kernel)) (chkS rfl rfl rfl rfl) ?_
  refine Go_st rfl rfl ?_
  refine Go_ifT (by decide +kernel) ?_
  refine Go_st rfl rfl ?_
  refine Go_st rfl rfl ?_
  refine Go_st rfl rfl ?_
  refine Go_aald (k := 60) rfl rfl rfl (by decide +kernel) (by decide +kernel) ?_
  refine Go_st rfl rfl ?_
  refine Go_st rfl rfl ?_
  refine Go_st rfl rfl ?_
  refine Go_st rfl rfl ?_
  refine Go_aald (k := 60) rfl rfl rfl (by decide +kernel) (by decide +kernel) ?_
  refine Go_st rfl rfl ?_
  refine Go_st rfl rfl ?_
  refine Go_st rfl rfl ?_
  refine Go_st rfl rfl ?_
  refine Go_ifT (by decide +kernel) ?_
  refine Go_st rfl rfl ?_
  exact Go_ret rfl ⟨_, rfl, rfl⟩
set_option maxRecDepth 20000 in
set_option maxHeartbeats 4000000 in
theorem rm_X9_paste_0_v_0_v_v (c : Nat → pm_E) (d : Nat) (a2 : Int32) (a4 : Int32) (a5 : Int32) : pm_Rt pm_P (d + 3) 184 (hpm c) [.ref 77, .int 0, .int a2, .int 0, .int a4, .int a5] (hpm c) (some (.int (-6))) := by
  refine Rt_of aiX9_paste (Nat.le_of_ble_eq_true rfl) ?_
  refine Go_st rfl rfl ?_
  refine Go_st rfl rfl ?_
  refine Go_sm rfl rfl (sm_f rfl) ?_
  refine Go_st rfl rfl ?_
  refine Go_call rfl (rm_isSlot1 _ d _ (by decide +kernel)) (chkS rfl rfl rfl rfl) ?_
  refine Go_st rfl rfl ?_
  refine Go_ifF (by decide +kernel) ?_
  refine Go_st rfl rfl ?_
  refine Go_call rfl (rm_isSlot1 _ d _ (by decide +kernel)) (chkS rfl rfl rfl rfl) ?_
  refine Go_st rfl rfl ?_
  refine Go_ifT (by decide +kernel) ?_
  refine Go_st rfl rfl ?_
  refine Go_st rfl rfl ?_
  refine Go_st rfl rfl ?_
  refine Go_iald (v := -1) rfl rfl (by decide +kernel) (by decide +kernel) ?_
  refine Go_st rfl rfl ?_
  refine Go_st rfl rfl ?_
  refine Go_ifT (by decide +kernel) ?_
  refine Go_st rfl rfl ?_
  exact Go_ret rfl ⟨_, rfl, rfl⟩
set_option maxRecDepth 20000 in
set_option maxHeartbeats 4000000 in
theorem rm_X9_paste_0_v_1_v_v (c : Nat → pm_E) (d : Nat) (a2 : Int32) (a4 : Int32) (a5 : Int32) : pm_Rt pm_P (d + 3) 184 (hpm c) [.ref 77, .int 0, .int a2, .int 1, .int a4, .int a5] (hpm c) (some (.int (-6))) := by
  refine Rt_of aiX9_paste (Nat.le_of_ble_eq_true rfl) ?_
  refine Go_st rfl rfl ?_
  refine Go_st rfl rfl ?_
  refine Go_sm rfl rfl (sm_f rfl) ?_
  refine Go_st rfl rfl ?_
  refine Go_call rfl (rm_isSlot1 _ d _ (by decide +kernel)) (chkS rfl rfl rfl rfl) ?_
  refine Go_st rfl rfl ?_
  refine Go_ifF (by decide +kernel) ?_
  refine Go_st rfl rfl ?_
  refine Go_call rfl (rm_isSlot1 _ d _ (by decide +kernel)) (chkS rfl rfl rfl rfl) ?_
  refine Go_st rfl rfl ?_
  refine Go_ifT (by decide +kernel) ?_
  refine Go_st rfl rfl ?_
  refine Go_st rfl rfl ?_
  refine Go_st rfl rfl ?_
  refine Go_iald (v := -1) rfl rfl (by decide +kernel) (by decide +kernel) ?_
  refine Go_st rfl rfl ?_
  refine Go_st rfl rfl ?_
  refine Go_ifT (by decide +kernel) ?_
  refine Go_st rfl rfl ?_
  exact Go_ret rfl ⟨_, rfl, rfl⟩
set_option maxRecDepth 20000 in
set_option maxHeartbeats 4000000 in
theorem rm_X9_paste_0_v_2_v_v (c : Nat → pm_E) (d : Nat) (a2 : Int32) (a4 : Int32) (a5 : Int32) : pm_Rt pm_P (d + 3) 184 (hpm c) [.ref 77, .int 0, .int a2, .int 2, .int a4, .int a5] (hpm c) (some (.int (-6))) := by
  refine Rt_of aiX9_paste (Nat.le_of_ble_eq_true rfl) ?_
  refine Go_st rfl rfl ?_
  refine Go_st rfl rfl ?_
  refine Go_sm rfl rfl (sm_f rfl) ?_
  refine Go_st rfl rfl ?_
  refine Go_call rfl (rm_isSlot1 _ d _ (by decide +kernel)) (chkS rfl rfl rfl rfl) ?_
  refine Go_st rfl rfl ?_
  refine Go_ifF (by decide +kernel) ?_
  refine Go_st rfl rfl ?_
  refine Go_call rfl (rm_isSlot1 _ d _ (by decide +kernel)) (chkS rfl rfl rfl rfl) ?_
  refine Go_st rfl rfl ?_
  refine Go_ifT (by decide +kernel) ?_
  refine Go_st rfl rfl ?_
  refine Go_st rfl rfl ?_
  refine Go_st rfl rfl ?_
  refine Go_iald (v := -1) rfl rfl (by decide +kernel) (by decide +kernel) ?_
  refine Go_st rfl rfl ?_
  refine Go_st rfl rfl ?_
  refine Go_ifT (by decide +kernel) ?_
  refine Go_st rfl rfl ?_
  exact Go_ret rfl ⟨_, rfl, rfl⟩
set_option maxRecDepth 20000 in
set_option maxHeartbeats 4000000 in
theorem rm_X9_paste_0_v_3_v_v (c : Nat → pm_E) (d : Nat) (a2 : Int32) (a4 : Int32) (a5 : Int32) : pm_Rt pm_P (d + 3) 184 (hpm c) [.ref 77, .int 0, .int a2, .int 3, .int a4, .int a5] (hpm c) (some (.int (-6))) := by
  refine Rt_of aiX9_paste (Nat.le_of_ble_eq_true rfl) ?_
  refine Go_st rfl rfl ?_
  refine Go_st rfl rfl ?_
  refine Go_sm rfl rfl (sm_f rfl) ?_
  refine Go_st rfl rfl ?_
  refine Go_call rfl (rm_isSlot1 _ d _ (by decide +kernel)) (chkS rfl rfl rfl rfl) ?_
  refine Go_st rfl rfl ?_
  refine Go_ifF (by decide +kernel) ?_
  refine Go_st rfl rfl ?_
  refine Go_call rfl (rm_isSlot1 _ d _ (by decide +kernel)) (chkS rfl rfl rfl rfl) ?_
  refine Go_st rfl rfl ?_
  refine Go_ifT (by decide +kernel) ?_
  refine Go_st rfl rfl ?_
  refine Go_st rfl rfl ?_
  refine Go_st rfl rfl ?_
  refine Go_iald (v := -1) rfl rfl (by decide +kernel) (by decide +kernel) ?_
  refine Go_st rfl rfl ?_
  refine Go_st rfl rfl ?_
  refine Go_ifT (by decide +kernel) ?_
  refine Go_st rfl rfl ?_
  exact Go_ret rfl ⟨_, rfl, rfl⟩
set_option maxRecDepth 20000 in
set_option maxHeartbeats 4000000 in
theorem rm_X9_paste_1_v_0_v_v (c : Nat → pm_E) (d : Nat) (a2 : Int32) (a4 : Int32) (a5 : Int32) : pm_Rt pm_P (d + 3) 184 (hpm c) [.ref 77, .int 1, .int a2, .int 0, .int a4, .int a5] (hpm c) (some (.int (-6))) := by
  refine Rt_of aiX9_paste (Nat.le_of_ble_eq_true rfl) ?_
  refine Go_st rfl rfl ?_
  refine Go_st rfl rfl ?_
  refine Go_sm rfl rfl (sm_f rfl) ?_
  refine Go_st rfl rfl ?_
  refine Go_call rfl (rm_isSlot1 _ d _ (by decide +kernel)) (chkS rfl rfl rfl rfl) ?_
  refine Go_st rfl rfl ?_
  refine Go_ifF (by decide +kernel) ?_
  refine Go_st rfl rfl ?_
  refine Go_call rfl (rm_isSlot1 _ d _ (by decide +kernel)) (chkS rfl rfl rfl rfl) ?_
  refine Go_st rfl rfl ?_
  refine Go_ifT (by decide +kernel) ?_
  refine Go_st rfl rfl ?_
  refine Go_st rfl rfl ?_
  refine Go_st rfl rfl ?_
  refine Go_iald (v := -1) rfl rfl (by decide +kernel) (by decide +kernel) ?_
  refine Go_st rfl rfl ?_
  refine Go_st rfl rfl ?_
  refine Go_ifT (by decide +kernel) ?_
  refine Go_st rfl rfl ?_
  exact Go_ret rfl ⟨_, rfl, rfl⟩
set_option maxRecDepth 20000 in
set_option maxHeartbeats 4000000 in
theorem rm_X9_paste_1_v_1_v_v (c : Nat → pm_E) (d : Nat) (a2 : Int32) (a4 : Int32) (a5 : Int32) : pm_Rt pm_P (d + 3) 184 (hpm c) [.ref 77, .int 1, .int a2, .int 1, .int a4, .int a5] (hpm c) (some (.int (-6))) := by
  refine Rt_of aiX9_paste (Nat.le_of_ble_eq_true rfl) ?_
  refine Go_st rfl rfl ?_
  refine Go_st rfl rfl ?_
  refine Go_sm rfl rfl (sm_f rfl) ?_
  refine Go_st rfl rfl ?_
  refine Go_call rfl (rm_isSlot1 _ d _ (by decide +kernel)) (chkS rfl rfl rfl rfl) ?_
  refine Go_st rfl rfl ?_
  refine Go_ifF (by decide +kernel) ?_
  refine Go_st rfl rfl ?_
  refine Go_call rfl (rm_isSlot1 _ d _ (by decide +kernel)) (chkS rfl rfl rfl rfl) ?_
  refine Go_st rfl rfl ?_
  refine Go_ifT (by decide +kernel) ?_
  refine Go_st rfl rfl ?_
  refine Go_st rfl rfl ?_
  refine Go_st rfl rfl ?_
  refine Go_iald (v := -1) rfl rfl (by decide +kernel) (by decide +kernel) ?_
  refine Go_st rfl rfl ?_
  refine Go_st rfl rfl ?_
  refine Go_ifT (by decide +kernel) ?_
  refine Go_st rfl rfl ?_
  exact Go_ret rfl ⟨_, rfl, rfl⟩
set_option maxRecDepth 20000 in
set_option maxHeartbeats 4000000 in
theorem rm_X9_paste_1_v_2_v_v (c : Nat → pm_E) (d : Nat) (a2 : Int32) (a4 : Int32) (a5 : Int32) : pm_Rt pm_P (d + 3) 184 (hpm c) [.ref 77, .int 1, .int a2, .int 2, .int a4, .int a5] (hpm c) (some (.int (-6))) := by
  refine Rt_of aiX9_paste (Nat.le_of_ble_eq_true rfl) ?_
  refine Go_st rfl rfl ?_
  refine Go_st rfl rfl ?_
  refine Go_sm rfl rfl (sm_f rfl) ?_
  refine Go_st rfl rfl ?_
  refine Go_call rfl (rm_isSlot1 _ d _ (by decide +kernel)) (chkS rfl rfl rfl rfl) ?_
  refine Go_st rfl rfl ?_
  refine Go_ifF (by decide +kernel) ?_
  refine Go_st rfl rfl ?_
  refine Go_call rfl (rm_isSlot1 _ d _ (by decide +kernel)) (chkS rfl rfl rfl rfl) ?_
  refine Go_st rfl rfl ?_
  refine Go_ifT (by decide +kernel) ?_
  refine Go_st rfl rfl ?_
  refine Go_st rfl rfl ?_
  refine Go_st rfl rfl ?_
  refine Go_iald (v := -1) rfl rfl (by decide +kernel) (by decide +kernel) ?_
  refine Go_st rfl rfl ?_
  refine Go_st rfl rfl ?_
  refine Go_ifT (by decide +kernel) ?_
  refine Go_st rfl rfl ?_
  exact Go_ret rfl ⟨_, rfl, rfl⟩
set_option maxRecDepth 20000 in
set_option maxHeartbeats 4000000 in
theorem rm_X9_paste_1_v_3_v_v (c : Nat → pm_E) (d : Nat) (a2 : Int32) (a4 : Int32) (a5 : Int32) : pm_Rt pm_P (d + 3) 184 (hpm c) [.ref 77, .int 1, .int a2, .int 3, .int a4, .int a5] (hpm c) (some (.int (-6))) := by
  refine Rt_of aiX9_paste (Nat.le_of_ble_eq_true rfl) ?_
  refine Go_st rfl rfl ?_
  refine Go_st rfl rfl ?_
  refine Go_sm rfl rfl (sm_f rfl) ?_
  refine Go_st rfl rfl ?_
  refine Go_call rfl (rm_isSlot1 _ d _ (by decide +kernel)) (chkS rfl rfl rfl rfl) ?_
  refine Go_st rfl rfl ?_
  refine Go_ifF (by decide +kernel) ?_
  refine Go_st rfl rfl ?_
  refine Go_call rfl (rm_isSlot1 _ d _ (by decide +kernel)) (chkS rfl rfl rfl rfl) ?_
  refine Go_st rfl rfl ?_
  refine Go_ifT (by decide +kernel) ?_
  refine Go_st rfl rfl ?_
  refine Go_st rfl rfl ?_
  refine Go_st rfl rfl ?_
  refine Go_iald (v := -1) rfl rfl (by decide +kernel) (by decide +kernel) ?_
  refine Go_st rfl rfl ?_
  refine Go_st rfl rfl ?_
  refine Go_ifT (by decide +kernel) ?_
  refine Go_st rfl rfl ?_
  exact Go_ret rfl ⟨_, rfl, rfl⟩
set_option maxRecDepth 20000 in
set_option maxHeartbeats 4000000 in
theorem rm_X9_paste_2_v_0_v_v (c : Nat → pm_E) (d : Nat) (a2 : Int32) (a4 : Int32) (a5 : Int32) : pm_Rt pm_P (d + 3) 184 (hpm c) [.ref 77, .int 2, .int a2, .int 0, .int a4, .int a5] (hpm c) (some (.int (-6))) := by
  refine Rt_of aiX9_paste (Nat.le_of_ble_eq_true rfl) ?_
  refine Go_st rfl rfl ?_
  refine Go_st rfl rfl ?_
  refine Go_sm rfl rfl (sm_f rfl) ?_
  refine Go_st rfl rfl ?_
  refine Go_call rfl (rm_isSlot1 _ d _ (by decide +kernel)) (chkS rfl rfl rfl rfl) ?_
  refine Go_st rfl rfl ?_
  refine Go_ifF (by decide +kernel) ?_
  refine Go_st rfl rfl ?_
  refine Go_call rfl (rm_isSlot1 _ d _ (by decide +kernel)) (chkS rfl rfl rfl rfl) ?_
  refine Go_st rfl rfl ?_
  refine Go_ifT (by decide +kernel) ?_
  refine Go_st rfl rfl ?_
  refine Go_st rfl rfl ?_
  refine Go_st rfl rfl ?_
  refine Go_iald (v := -1) rfl rfl (by decide +kernel) (by decide +kernel) ?_
  refine Go_st rfl rfl ?_
  refine Go_st rfl rfl ?_
  refine Go_ifT (by decide +kernel) ?_
  refine Go_st rfl rfl ?_
  exact Go_ret rfl ⟨_, rfl, rfl⟩
set_option maxRecDepth 20000 in
set_option maxHeartbeats 4000000 in
theorem rm_X9_paste_2_v_1_v_v (c : Nat → pm_E) (d : Nat) (a2 : Int32) (a4 : Int32) (a5 : Int32) : pm_Rt pm_P (d + 3) 184 (hpm c) [.ref 77, .int 2, .int a2, .int 1, .int a4, .int a5] (hpm c) (some (.int (-6))) := by
  refine Rt_of aiX9_paste (Nat.le_of_ble_eq_true rfl) ?_
  refine Go_st rfl rfl ?_
  refine Go_st rfl rfl ?_
  refine Go_sm rfl rfl (sm_f rfl) ?_
  refine Go_st rfl rfl ?_
  refine Go_call rfl (rm_isSlot1 _ d _ (by decide +kernel)) (chkS rfl rfl rfl rfl) ?_
  refine Go_st rfl rfl ?_
  refine Go_ifF (by decide +kernel) ?_
  refine Go_st rfl rfl ?_
  refine Go_call rfl (rm_isSlot1 _ d _ (by decide +kernel)) (chkS rfl rfl rfl rfl) ?_
  refine Go_st rfl rfl ?_
  refine Go_ifT (by decide +kernel) ?_
  refine Go_st rfl rfl ?_
  refine Go_st rfl rfl ?_
  refine Go_st rfl rfl ?_
  refine Go_iald (v := -1) rfl rfl (by decide +kernel) (by decide +kernel) ?_
  refine Go_st rfl rfl ?_
  refine Go_st rfl rfl ?_
  refine Go_ifT (by decide +kernel) ?_
  refine Go_st rfl rfl ?_
  exact Go_ret rfl ⟨_, rfl, rfl⟩
set_option maxRecDepth 20000 in
set_option maxHeartbeats 4000000 in
theorem rm_X9_paste_2_v_2_v_v (c : Nat → pm_E) (d : Nat) (a2 : Int32) (a4 : Int32) (a5 : Int32) : pm_Rt pm_P (d + 3) 184 (hpm c) [.ref 77, .int 2, .int a2, .int 2, .int a4, .int a5] (hpm c) (some (.int (-6))) := by
  refine Rt_of aiX9_paste (Nat.le_of_ble_eq_true rfl) ?_
  refine Go_st rfl rfl ?_
  refine Go_st rfl rfl ?_
  refine Go_sm rfl rfl (sm_f rfl) ?_
  refine Go_st rfl rfl ?_
  refine Go_call rfl (rm_isSlot1 _ d _ (by decide +kernel)) (chkS rfl rfl rfl rfl) ?_
  refine Go_st rfl rfl ?_
  refine Go_ifF (by decide +kernel) ?_
  refine Go_st rfl rfl ?_
  refine Go_call rfl (rm_isSlot1 _ d _ (by decide +kernel)) (chkS rfl rfl rfl rfl) ?_
  refine Go_st rfl rfl ?_
  refine Go_ifT (by decide +kernel) ?_
  refine Go_st rfl rfl ?_
  refine Go_st rfl rfl ?_
  refine Go_st rfl rfl ?_
  refine Go_iald (v := -1) rfl rfl (by decide +kernel) (by decide +kernel) ?_
  refine Go_st rfl rfl ?_
  refine Go_st rfl rfl ?_
  refine Go_ifT (by decide +kernel) ?_
  refine Go_st rfl rfl ?_
  exact Go_ret rfl ⟨_, rfl, rfl⟩
set_option maxRecDepth 20000 in
set_option maxHeartbeats 4000000 in
theorem rm_X9_paste_2_v_3_v_v (c : Nat → pm_E) (d : Nat) (a2 : Int32) (a4 : Int32) (a5 : Int32) : pm_Rt pm_P (d + 3) 184 (hpm c) [.ref 77, .int 2, .int a2, .int 3, .int a4, .int a5] (hpm c) (some (.int (-6))) := by
  refine Rt_of aiX9_paste (Nat.le_of_ble_eq_true rfl) ?_
  refine Go_st rfl rfl ?_
  refine Go_st rfl rfl ?_
  refine Go_sm rfl rfl (sm_f rfl) ?_
  refine Go_st rfl rfl ?_
  refine Go_call rfl (rm_isSlot1 _ d _ (by decide +kernel)) (chkS rfl rfl rfl rfl) ?_
  refine Go_st rfl rfl ?_
  refine Go_ifF (by decide +kernel) ?_
  refine Go_st rfl rfl ?_
  refine Go_call rfl (rm_isSlot1 _ d _ (by decide +kernel)) (chkS rfl rfl rfl rfl) ?_
  refine Go_st rfl rfl ?_
  refine Go_ifT (by decide +kernel) ?_
  refine Go_st rfl rfl ?_
  refine Go_st rfl rfl ?_
  refine Go_st rfl rfl ?_
  refine Go_iald (v := -1) rfl rfl (by decide +kernel) (by decide +kernel) ?_
  refine Go_st rfl rfl ?_
  refine Go_st rfl rfl ?_
  refine Go_ifT (by decide +kernel) ?_
  refine Go_st rfl rfl ?_
  exact Go_ret rfl ⟨_, rfl, rfl⟩
