/-! runs on a fresh object (written by gen_auto.py) -/
set_option maxRecDepth 20000 in
set_option maxHeartbeats 4000000 in
theorem rm_X9_follows_b (c : Nat → pm_E) (d : Nat)  : pm_Rt pm_P (d + 2) 144 (hpb c) [.ref 77] (hpb c) none := by
  refine Rt_of aiX9_follows (Nat.le_of_ble_eq_true rfl) ?_
  refine Go_st rfl rfl ?_
  refine Go_st rfl rfl ?_
  refine Go_st rfl rfl ?_
  refine Go_st rfl rfl ?_
  refine Go_st rfl rfl ?_
  refine Go_call rfl (rm_X9_isByte_0_32_32_b c d) (chkV rfl rfl rfl rfl rfl rfl) ?_
  refine Go_st rfl rfl ?_
  refine Go_ifF (by decide +kernel) ?_
  refine Go_st rfl rfl ?_
  refine Go_st rfl rfl ?_
  refine Go_st rfl rfl ?_
  refine Go_st rfl rfl ?_
  refine Go_st rfl rfl ?_
  refine Go_call rfl (rm_X9_isByte_0_10_10_b c d) (chkV rfl rfl rfl rfl rfl rfl) ?_
  refine Go_st rfl rfl ?_
  refine Go_ifT (by decide +kernel) ?_
  refine Go_st rfl rfl ?_
  refine Go_st rfl rfl ?_
  refine Go_st rfl rfl ?_
  refine Go_sm rfl rfl (sm_f rfl) ?_
  refine Go_st rfl rfl ?_
  refine Go_st rfl rfl ?_
  refine Go_sm rfl rfl (sm_f rfl) ?_
  refine Go_st rfl rfl ?_
  refine Go_st rfl rfl ?_
  refine Go_sm rfl rfl (sm_f rfl) ?_
  refine Go_st rfl rfl ?_
  refine Go_st rfl rfl ?_
  refine Go_st rfl rfl ?_
  refine Go_st rfl rfl ?_
  refine Go_st rfl rfl ?_
  refine Go_ifF (by decide +kernel) ?_
  refine Go_st rfl rfl ?_
  refine Go_st rfl rfl ?_
  refine Go_sm rfl rfl (sm_f rfl) ?_
  refine Go_st rfl rfl ?_
  exact Go_ret rfl ⟨rfl, rfl⟩
set_option maxRecDepth 20000 in
set_option maxHeartbeats 4000000 in
theorem rm_X9_begins (c : Nat → pm_E) (d : Nat)  : pm_Rt pm_P (d + 3) 119 (hpm c) [.ref 77] (hpb c) none := by
  refine Rt_of aiX9_begins (Nat.le_of_ble_eq_true rfl) ?_
  refine Go_st rfl rfl ?_
  refine Go_st rfl rfl ?_
  refine Go_sm rfl rfl (sm_f rfl) ?_
  refine Go_st rfl rfl ?_
  refine Go_st rfl rfl ?_
  refine Go_st rfl rfl ?_
  refine Go_st rfl rfl ?_
  refine Go_st rfl rfl ?_
  refine Go_sm rfl rfl (sm_f rfl) ?_
  refine Go_st rfl rfl ?_
  refine Go_call rfl (rm_X9_follows_b c d) (chkV rfl rfl rfl rfl rfl rfl) ?_
  exact Go_ret rfl ⟨rfl, rfl⟩
set_option maxRecDepth 20000 in
set_option maxHeartbeats 4000000 in
theorem rm_X9_isGood_b (c : Nat → pm_E) (d : Nat)  : pm_Rt pm_P (d + 1) 156 (hpb c) [.ref 77] (hpb c) (some (.int 1)) := by
  refine Rt_of aiX9_isGood (Nat.le_of_ble_eq_true rfl) ?_
  refine Go_st rfl rfl ?_
  refine Go_st rfl rfl ?_
  refine Go_st rfl rfl ?_
  refine Go_ifF (by decide +kernel) ?_
  refine Go_st rfl rfl ?_
  refine Go_st rfl rfl ?_
  exact Go_ret rfl ⟨_, rfl, by decide, rfl⟩
set_option maxRecDepth 20000 in
set_option maxHeartbeats 4000000 in
theorem rm_X9_isOver_b (c : Nat → pm_E) (d : Nat)  : pm_Rt pm_P (d + 1) 160 (hpb c) [.ref 77] (hpb c) none := by
  refine Rt_of aiX9_isOver (Nat.le_of_ble_eq_true rfl) ?_
  refine Go_st rfl rfl ?_
  refine Go_st rfl rfl ?_
  refine Go_sm rfl rfl (sm_f rfl) ?_
  refine Go_st rfl rfl ?_
  refine Go_st rfl rfl ?_
  refine Go_st rfl rfl ?_
  refine Go_sm rfl rfl (sm_f rfl) ?_
  refine Go_st rfl rfl ?_
  refine Go_st rfl rfl ?_
  refine Go_st rfl rfl ?_
  refine Go_st rfl rfl ?_
  refine Go_ifF (by decide +kernel) ?_
  refine Go_st rfl rfl ?_
  refine Go_st rfl rfl ?_
  refine Go_sm rfl rfl (sm_f rfl) ?_
  exact Go_ret rfl ⟨rfl, rfl⟩
set_option maxRecDepth 20000 in
set_option maxHeartbeats 4000000 in
theorem rm_X9_copyStreet_4_0_b (c : Nat → pm_E) (d : Nat)  : pm_Rt pm_P (d + 2) 133 (hpb c) [.ref 77, .int 4, .int 0] (hpb c) none := by
  refine Rt_of aiX9_copyStreet (Nat.le_of_ble_eq_true rfl) ?_
  refine Go_st rfl rfl ?_
  refine Go_st rfl rfl ?_
  refine Go_st rfl rfl ?_
  refine Go_st rfl rfl ?_
  refine Go_st rfl rfl ?_
  refine Go_call rfl (rm_copyRow _ d 83 5 1 4 0 rfl (by decide) (by decide) (by decide)) (chkS rfl rfl rfl rfl) ?_
  refine Go_st rfl rfl ?_
  refine Go_st rfl rfl ?_
  refine Go_st rfl rfl ?_
  refine Go_st rfl rfl ?_
  refine Go_st rfl rfl ?_
  refine Go_call rfl (rm_copyRow _ d 84 30 6 4 0 rfl (by decide) (by decide) (by decide)) (chkS rfl rfl rfl rfl) ?_
  refine Go_st rfl rfl ?_
  refine Go_st rfl rfl ?_
  refine Go_st rfl rfl ?_
  refine Go_st rfl rfl ?_
  refine Go_st rfl rfl ?_
  refine Go_call rfl (rm_copyRow _ d 85 80 16 4 0 rfl (by decide) (by decide) (by decide)) (chkS rfl rfl rfl rfl) ?_
  refine Go_st rfl rfl ?_
  refine Go_st rfl rfl ?_
  refine Go_st rfl rfl ?_
  refine Go_st rfl rfl ?_
  refine Go_st rfl rfl ?_
  refine Go_call rfl (rm_copyRow _ d 86 80 16 4 0 rfl (by decide) (by decide) (by decide)) (chkS rfl rfl rfl rfl) ?_
  refine Go_st rfl rfl ?_
  refine Go_st rfl rfl ?_
  refine Go_st rfl rfl ?_
  refine Go_st rfl rfl ?_
  refine Go_st rfl rfl ?_
  refine Go_call rfl (rm_copyRow _ d 87 300 60 4 0 rfl (by decide) (by decide) (by decide)) (chkS rfl rfl rfl rfl) ?_
  exact Go_ret rfl ⟨rfl, rfl⟩
set_option maxRecDepth 20000 in
set_option maxHeartbeats 4000000 in
theorem rm_X9_street (c : Nat → pm_E) (d : Nat)  : pm_Rt pm_P (d + 4) 203 (hpm c) [.ref 77] (hpb c) (some (.int 0)) := by
  refine Rt_of aiX9_street (Nat.le_of_ble_eq_true rfl) ?_
  refine Go_st rfl rfl ?_
  refine Go_st rfl rfl ?_
  refine Go_sm rfl rfl (sm_f rfl) ?_
  refine Go_st rfl rfl ?_
  refine Go_call rfl (rm_X9_clears c (d + 1)) (chkV rfl rfl rfl rfl rfl rfl) ?_
  refine Go_st rfl rfl ?_
  refine Go_call rfl (rm_X9_begins c d) (chkV rfl rfl rfl rfl rfl rfl) ?_
  refine Go_st rfl rfl ?_
  refine Go_call rfl (rm_X9_isGood_b c (d + 2)) (chkV rfl rfl rfl rfl rfl rfl) ?_
  refine Go_st rfl rfl ?_
  refine Go_ifF (by decide +kernel) ?_
  refine Go_st rfl rfl ?_
  refine Go_st rfl rfl ?_
  refine Go_st rfl rfl ?_
  refine Go_ifT (by decide +kernel) ?_
  refine Go_st rfl rfl ?_
  refine Go_call rfl (rm_X9_isOver_b c (d + 2)) (chkV rfl rfl rfl rfl rfl rfl) ?_
  refine Go_st rfl rfl ?_
  refine Go_st rfl rfl ?_
  refine Go_st rfl rfl ?_
  refine Go_ifT (by decide +kernel) ?_
  refine Go_st rfl rfl ?_
  refine Go_st rfl rfl ?_
  refine Go_st rfl rfl ?_
  refine Go_call rfl (rm_X9_copyStreet_4_0_b c (d + 1)) (chkV rfl rfl rfl rfl rfl rfl) ?_
  refine Go_st rfl rfl ?_
  refine Go_st rfl rfl ?_
  refine Go_st rfl rfl ?_
  refine Go_iald (v := 0) rfl rfl (by decide +kernel) (by decide +kernel) ?_
  exact Go_ret rfl ⟨_, rfl, rfl⟩
set_option maxRecDepth 20000 in
set_option maxHeartbeats 4000000 in
theorem rx_X8_car_v_v (d : Nat) (a1 : Int32) (a2 : Int32) : pm_Rt pm_P (d + 2) 26 (hp0) [.ref 0, .int a1, .int a2] (hp0) (some (.int (-2))) := by
  refine Rt_of aiX8_car (Nat.le_of_ble_eq_true rfl) ?_
  refine Go_st rfl rfl ?_
  refine Go_st rfl rfl ?_
  refine Go_call rfl (rx_X8_hasCar d _) (chkV rfl rfl rfl rfl rfl rfl) ?_
  refine Go_st rfl rfl ?_
  refine Go_ifT (by decide +kernel) ?_
  refine Go_st rfl rfl ?_
  exact Go_ret rfl ⟨_, rfl, rfl⟩
set_option maxRecDepth 20000 in
set_option maxHeartbeats 4000000 in
theorem rm_X9_cars (c : Nat → pm_E) (d : Nat)  : pm_Rt pm_P (d + 1) 127 (hpm c) [.ref 77] (hpm c) (some (.int 0)) := by
  refine Rt_of aiX9_cars (Nat.le_of_ble_eq_true rfl) ?_
  refine Go_st rfl rfl ?_
  refine Go_st rfl rfl ?_
  refine Go_st rfl rfl ?_
  refine Go_iald (v := 0) rfl rfl (by decide +kernel) (by decide +kernel) ?_
  exact Go_ret rfl ⟨_, rfl, rfl⟩
set_option maxRecDepth 20000 in
set_option maxHeartbeats 4000000 in
theorem rm_X9_isCar_v (c : Nat → pm_E) (d : Nat) (a1 : Int64) : pm_Rt pm_P (d + 2) 155 (hpm c) [.ref 77, .long a1] (hpm c) (some (.int 0)) := by
  refine Rt_of aiX9_isCar (Nat.le_of_ble_eq_true rfl) ?_
  refine Go_st rfl rfl ?_
  refine Go_st rfl rfl ?_
  refine Go_st rfl rfl ?_
  refine Go_call rfl (rm_X9_cars c d) (chkV rfl rfl rfl rfl rfl rfl) ?_
  refine Go_st rfl rfl ?_
  refine Go_st rfl rfl ?_
  refine Go_st rfl rfl ?_
  refine Go_call rfl (rm_in0 _ d _ _ _ (pm_no (by decide +kernel))) (chkS rfl rfl rfl rfl) ?_
  exact Go_ret rfl ⟨_, rfl, by decide, rfl⟩
set_option maxRecDepth 20000 in
set_option maxHeartbeats 4000000 in
theorem rm_X9_car_v_v (c : Nat → pm_E) (d : Nat) (a1 : Int32) (a2 : Int32) : pm_Rt pm_P (d + 3) 126 (hpm c) [.ref 77, .int a1, .int a2] (hpm c) (some (.int (-2))) := by
  refine Rt_of aiX9_car (Nat.le_of_ble_eq_true rfl) ?_
  refine Go_st rfl rfl ?_
  refine Go_st rfl rfl ?_
  refine Go_sm rfl rfl (sm_f rfl) ?_
  refine Go_st rfl rfl ?_
  refine Go_st rfl rfl ?_
  refine Go_st rfl rfl ?_
  refine Go_call rfl (rm_X9_isCar_v c d _) (chkV rfl rfl rfl rfl rfl rfl) ?_
  refine Go_st rfl rfl ?_
  refine Go_ifT (by decide +kernel) ?_
  refine Go_st rfl rfl ?_
  exact Go_ret rfl ⟨_, rfl, rfl⟩
set_option maxRecDepth 20000 in
set_option maxHeartbeats 4000000 in
theorem rx_X8_place_v (d : Nat) (a1 : Int32) : pm_Rt pm_P (d + 2) 75 (hp0) [.ref 0, .int a1] (hp0) (some (.int (-2))) := by
  refine Rt_of aiX8_place (Nat.le_of_ble_eq_true rfl) ?_
  refine Go_st rfl rfl ?_
  refine Go_st rfl rfl ?_
  refine Go_call rfl (rx_X8_hasCar d _) (chkV rfl rfl rfl rfl rfl rfl) ?_
  refine Go_st rfl rfl ?_
  refine Go_ifF (by decide +kernel) ?_
  refine Go_st rfl rfl ?_
  exact Go_ret rfl ⟨_, rfl, rfl⟩
set_option maxRecDepth 20000 in
set_option maxHeartbeats 4000000 in
theorem rm_X9_place_v (c : Nat → pm_E) (d : Nat) (a1 : Int32) : pm_Rt pm_P (d + 3) 185 (hpm c) [.ref 77, .int a1] (hpm c) (some (.int (-2))) := by
  refine Rt_of aiX9_place (Nat.le_of_ble_eq_true rfl) ?_
  refine Go_st rfl rfl ?_
  refine Go_st rfl rfl ?_
  refine Go_sm rfl rfl (sm_f rfl) ?_
  refine Go_st rfl rfl ?_
  refine Go_st rfl rfl ?_
  refine Go_st rfl rfl ?_
  refine Go_call rfl (rm_X9_isCar_v c d _) (chkV rfl rfl rfl rfl rfl rfl) ?_
  refine Go_st rfl rfl ?_
  refine Go_ifF (by decide +kernel) ?_
  refine Go_st rfl rfl ?_
  exact Go_ret rfl ⟨_, rfl, rfl⟩
set_option maxRecDepth 20000 in
set_option maxHeartbeats 4000000 in
theorem rx_X8_steps_v (d : Nat) (a1 : Int32) : pm_Rt pm_P (d + 2) 96 (hp0) [.ref 0, .int a1] (hp0) (some (.int (-2))) := by
  refine Rt_of aiX8_steps (Nat.le_of_ble_eq_true rfl) ?_
  refine Go_st rfl rfl ?_
  refine Go_st rfl rfl ?_
  refine Go_call rfl (rx_X8_hasCar d _) (chkV rfl rfl rfl rfl rfl rfl) ?_
  refine Go_st rfl rfl ?_
  refine Go_ifF (by decide +kernel) ?_
  refine Go_st rfl rfl ?_
  exact Go_ret rfl ⟨_, rfl, rfl⟩
set_option maxRecDepth 20000 in
set_option maxHeartbeats 4000000 in
theorem rm_X9_steps_v (c : Nat → pm_E) (d : Nat) (a1 : Int32) : pm_Rt pm_P (d + 3) 202 (hpm c) [.ref 77, .int a1] (hpm c) (some (.int (-2))) := by
  refine Rt_of aiX9_steps (Nat.le_of_ble_eq_true rfl) ?_
  refine Go_st rfl rfl ?_
  refine Go_st rfl rfl ?_
  refine Go_sm rfl rfl (sm_f rfl) ?_
  refine Go_st rfl rfl ?_
  refine Go_st rfl rfl ?_
  refine Go_st rfl rfl ?_
  refine Go_call rfl (rm_X9_isCar_v c d _) (chkV rfl rfl rfl rfl rfl rfl) ?_
  refine Go_st rfl rfl ?_
  refine Go_ifF (by decide +kernel) ?_
  refine Go_st rfl rfl ?_
  exact Go_ret rfl ⟨_, rfl, rfl⟩
set_option maxRecDepth 20000 in
set_option maxHeartbeats 4000000 in
theorem rx_X8_hasStreet (d : Nat)  : pm_Rt pm_P (d + 1) 47 (hp0) [.ref 0] (hp0) (some (.int 0)) := by
  refine Rt_of aiX8_hasStreet (Nat.le_of_ble_eq_true rfl) ?_
  refine Go_st rfl rfl ?_
  refine Go_st rfl rfl ?_
  refine Go_st rfl rfl ?_
  refine Go_st rfl rfl ?_
  refine Go_ifT (by decide +kernel) ?_
  refine Go_st rfl rfl ?_
  exact Go_ret rfl ⟨_, rfl, by decide, rfl⟩
set_option maxRecDepth 20000 in
set_option maxHeartbeats 4000000 in
theorem rx_X8_lost (d : Nat)  : pm_Rt pm_P (d + 2) 64 (hp0) [.ref 0] (hp0) (some (.int (-2))) := by
  refine Rt_of aiX8_lost (Nat.le_of_ble_eq_true rfl) ?_
  refine Go_st rfl rfl ?_
  refine Go_call rfl (rx_X8_hasStreet d) (chkV rfl rfl rfl rfl rfl rfl) ?_
  refine Go_st rfl rfl ?_
  refine Go_ifF (by decide +kernel) ?_
  refine Go_st rfl rfl ?_
  exact Go_ret rfl ⟨_, rfl, rfl⟩
set_option maxRecDepth 20000 in
set_option maxHeartbeats 4000000 in
theorem rm_X9_isStreet (c : Nat → pm_E) (d : Nat)  : pm_Rt pm_P (d + 1) 165 (hpm c) [.ref 77] (hpm c) (some (.int 0)) := by
  refine Rt_of aiX9_isStreet (Nat.le_of_ble_eq_true rfl) ?_
  refine Go_st rfl rfl ?_
  refine Go_st rfl rfl ?_
  refine Go_st rfl rfl ?_
  refine Go_iald (v := 0) rfl rfl (by decide +kernel) (by decide +kernel) ?_
  refine Go_st rfl rfl ?_
  refine Go_ifT (by decide +kernel) ?_
  refine Go_st rfl rfl ?_
  exact Go_ret rfl ⟨_, rfl, by decide, rfl⟩
set_option maxRecDepth 20000 in
set_option maxHeartbeats 4000000 in
theorem rm_X9_lost (c : Nat → pm_E) (d : Nat)  : pm_Rt pm_P (d + 2) 174 (hpm c) [.ref 77] (hpm c) (some (.int (-2))) := by
  refine Rt_of aiX9_lost (Nat.le_of_ble_eq_true rfl) ?_
  refine Go_st rfl rfl ?_
  refine Go_st rfl rfl ?_
  refine Go_sm rfl rfl (sm_f rfl) ?_
  refine Go_st rfl rfl ?_
  refine Go_call rfl (rm_X9_isStreet c d) (chkV rfl rfl rfl rfl rfl rfl) ?_
  refine Go_st rfl rfl ?_
  refine Go_ifF (by decide +kernel) ?_
  refine Go_st rfl rfl ?_
  exact Go_ret rfl ⟨_, rfl, rfl⟩
set_option maxRecDepth 20000 in
set_option maxHeartbeats 4000000 in
theorem rx_X8_free (d : Nat)  : pm_Rt pm_P (d + 2) 40 (hp0) [.ref 0] (hp0) (some (.int (-2))) := by
  refine Rt_of aiX8_free (Nat.le_of_ble_eq_true rfl) ?_
  refine Go_st rfl rfl ?_
  refine Go_call rfl (rx_X8_hasStreet d) (chkV rfl rfl rfl rfl rfl rfl) ?_
  refine Go_st rfl rfl ?_
  refine Go_ifF (by decide +kernel) ?_
  refine Go_st rfl rfl ?_
  exact Go_ret rfl ⟨_, rfl, rfl⟩
set_option maxRecDepth 20000 in
set_option maxHeartbeats 4000000 in
theorem rm_X9_free (c : Nat → pm_E) (d : Nat)  : pm_Rt pm_P (d + 2) 146 (hpm c) [.ref 77] (hpm c) (some (.int (-2))) := by
  refine Rt_of aiX9_free (Nat.le_of_ble_eq_true rfl) ?_
  refine Go_st rfl rfl ?_
  refine Go_st rfl rfl ?_
  refine Go_sm rfl rfl (sm_f rfl) ?_
  refine Go_st rfl rfl ?_
  refine Go_call rfl (rm_X9_isStreet c d) (chkV rfl rfl rfl rfl rfl rfl) ?_
  refine Go_st rfl rfl ?_
  refine Go_ifF (by decide +kernel) ?_
  refine Go_st rfl rfl ?_
  exact Go_ret rfl ⟨_, rfl, rfl⟩
set_option maxRecDepth 20000 in
set_option maxHeartbeats 4000000 in
theorem rx_X8_holder_v (d : Nat) (a1 : Int32) : pm_Rt pm_P (d + 2) 48 (hp0) [.ref 0, .int a1] (hp0) (some (.int (-2))) := by
  refine Rt_of aiX8_holder (Nat.le_of_ble_eq_true rfl) ?_
  refine Go_st rfl rfl ?_
  refine Go_st rfl rfl ?_
  refine Go_call rfl (rx_X8_hasPlace d _) (chkV rfl rfl rfl rfl rfl rfl) ?_
  refine Go_st rfl rfl ?_
  refine Go_ifF (by decide +kernel) ?_
  refine Go_st rfl rfl ?_
  exact Go_ret rfl ⟨_, rfl, rfl⟩
set_option maxRecDepth 20000 in
set_option maxHeartbeats 4000000 in
theorem rm_X9_isPlace_v (c : Nat → pm_E) (d : Nat) (a1 : Int32) : pm_Rt pm_P (d + 2) 161 (hpm c) [.ref 77, .int a1] (hpm c) (some (.int 0)) := by
  refine Rt_of aiX9_isPlace (Nat.le_of_ble_eq_true rfl) ?_
  refine Go_st rfl rfl ?_
  refine Go_call rfl (rm_X9_isStreet c d) (chkV rfl rfl rfl rfl rfl rfl) ?_
  refine Go_st rfl rfl ?_
  refine Go_ifT (by decide +kernel) ?_
  refine Go_st rfl rfl ?_
  exact Go_ret rfl ⟨_, rfl, by decide, rfl⟩
set_option maxRecDepth 20000 in
set_option maxHeartbeats 4000000 in
theorem rm_X9_holder_v (c : Nat → pm_E) (d : Nat) (a1 : Int32) : pm_Rt pm_P (d + 3) 148 (hpm c) [.ref 77, .int a1] (hpm c) (some (.int (-2))) := by
  refine Rt_of aiX9_holder (Nat.le_of_ble_eq_true rfl) ?_
  refine Go_st rfl rfl ?_
  refine Go_st rfl rfl ?_
  refine Go_sm rfl rfl (sm_f rfl) ?_
  refine Go_st rfl rfl ?_
  refine Go_st rfl rfl ?_
  refine Go_call rfl (rm_X9_isPlace_v c d _) (chkV rfl rfl rfl rfl rfl rfl) ?_
  refine Go_st rfl rfl ?_
  refine Go_ifF (by decide +kernel) ?_
  refine Go_st rfl rfl ?_
  exact Go_ret rfl ⟨_, rfl, rfl⟩
set_option maxRecDepth 20000 in
set_option maxHeartbeats 4000000 in
theorem rx_X8_lucky (d : Nat)  : pm_Rt pm_P (d + 2) 66 (hp0) [.ref 0] (hp0) (some (.int (-2))) := by
  refine Rt_of aiX8_lucky (Nat.le_of_ble_eq_true rfl) ?_
  refine Go_st rfl rfl ?_
  refine Go_call rfl (rx_X8_hasStreet d) (chkV rfl rfl rfl rfl rfl rfl) ?_
  refine Go_st rfl rfl ?_
  refine Go_ifF (by decide +kernel) ?_
  refine Go_st rfl rfl ?_
  exact Go_ret rfl ⟨_, rfl, rfl⟩
set_option maxRecDepth 20000 in
set_option maxHeartbeats 4000000 in
theorem rm_X9_lucky (c : Nat → pm_E) (d : Nat)  : pm_Rt pm_P (d + 2) 176 (hpm c) [.ref 77] (hpm c) (some (.int (-2))) := by
  refine Rt_of aiX9_lucky (Nat.le_of_ble_eq_true rfl) ?_
  refine Go_st rfl rfl ?_
  refine Go_st rfl rfl ?_
  refine Go_sm rfl rfl (sm_f rfl) ?_
  refine Go_st rfl rfl ?_
  refine Go_call rfl (rm_X9_isStreet c d) (chkV rfl rfl rfl rfl rfl rfl) ?_
  refine Go_st rfl rfl ?_
  refine Go_ifF (by decide +kernel) ?_
  refine Go_st rfl rfl ?_
  exact Go_ret rfl ⟨_, rfl, rfl⟩
set_option maxRecDepth 20000 in
set_option maxHeartbeats 4000000 in
theorem rx_X8_sum (d : Nat)  : pm_Rt pm_P (d + 2) 98 (hp0) [.ref 0] (hp0) (some (.int (-2))) := by
  refine Rt_of aiX8_sum (Nat.le_of_ble_eq_true rfl) ?_
  refine Go_st rfl rfl ?_
  refine Go_call rfl (rx_X8_hasStreet d) (chkV rfl rfl rfl rfl rfl rfl) ?_
  refine Go_st rfl rfl ?_
  refine Go_ifF (by decide +kernel) ?_
  refine Go_st rfl rfl ?_
  exact Go_ret rfl ⟨_, rfl, rfl⟩
set_option maxRecDepth 20000 in
set_option maxHeartbeats 4000000 in
theorem rm_X9_sum (c : Nat → pm_E) (d : Nat)  : pm_Rt pm_P (d + 2) 204 (hpm c) [.ref 77] (hpm c) (some (.int (-2))) := by
  refine Rt_of aiX9_sum (Nat.le_of_ble_eq_true rfl) ?_
  refine Go_st rfl rfl ?_
  refine Go_st rfl rfl ?_
  refine Go_sm rfl rfl (sm_f rfl) ?_
  refine Go_st rfl rfl ?_
  refine Go_call rfl (rm_X9_isStreet c d) (chkV rfl rfl rfl rfl rfl rfl) ?_
  refine Go_st rfl rfl ?_
  refine Go_ifF (by decide +kernel) ?_
  refine Go_st rfl rfl ?_
  exact Go_ret rfl ⟨_, rfl, rfl⟩
set_option maxRecDepth 20000 in
set_option maxHeartbeats 4000000 in
theorem rx_X8_worst (d : Nat)  : pm_Rt pm_P (d + 2) 109 (hp0) [.ref 0] (hp0) (some (.int (-2))) := by
  refine Rt_of aiX8_worst (Nat.le_of_ble_eq_true rfl) ?_
  refine Go_st rfl rfl ?_
  refine Go_call rfl (rx_X8_hasStreet d) (chkV rfl rfl rfl rfl rfl rfl) ?_
  refine Go_st rfl rfl ?_
  refine Go_ifF (by decide +kernel) ?_
  refine Go_st rfl rfl ?_
  exact Go_ret rfl ⟨_, rfl, rfl⟩
set_option maxRecDepth 20000 in
set_option maxHeartbeats 4000000 in
theorem rm_X9_worst (c : Nat → pm_E) (d : Nat)  : pm_Rt pm_P (d + 2) 217 (hpm c) [.ref 77] (hpm c) (some (.int (-2))) := by
  refine Rt_of aiX9_worst (Nat.le_of_ble_eq_true rfl) ?_
  refine Go_st rfl rfl ?_
  refine Go_st rfl rfl ?_
  refine Go_sm rfl rfl (sm_f rfl) ?_
  refine Go_st rfl rfl ?_
  refine Go_call rfl (rm_X9_isStreet c d) (chkV rfl rfl rfl rfl rfl rfl) ?_
  refine Go_st rfl rfl ?_
  refine Go_ifF (by decide +kernel) ?_
  refine Go_st rfl rfl ?_
  exact Go_ret rfl ⟨_, rfl, rfl⟩
set_option maxRecDepth 20000 in
set_option maxHeartbeats 4000000 in
theorem rx_X8_runs (d : Nat)  : pm_Rt pm_P (d + 2) 88 (hp0) [.ref 0] (hp0) (some (.int (-2))) := by
  refine Rt_of aiX8_runs (Nat.le_of_ble_eq_true rfl) ?_
  refine Go_st rfl rfl ?_
  refine Go_call rfl (rx_X8_hasStreet d) (chkV rfl rfl rfl rfl rfl rfl) ?_
  refine Go_st rfl rfl ?_
  refine Go_ifF (by decide +kernel) ?_
  refine Go_st rfl rfl ?_
  exact Go_ret rfl ⟨_, rfl, rfl⟩
set_option maxRecDepth 20000 in
set_option maxHeartbeats 4000000 in
theorem rm_X9_runs (c : Nat → pm_E) (d : Nat)  : pm_Rt pm_P (d + 2) 197 (hpm c) [.ref 77] (hpm c) (some (.int (-2))) := by
  refine Rt_of aiX9_runs (Nat.le_of_ble_eq_true rfl) ?_
  refine Go_st rfl rfl ?_
  refine Go_st rfl rfl ?_
  refine Go_sm rfl rfl (sm_f rfl) ?_
  refine Go_st rfl rfl ?_
  refine Go_call rfl (rm_X9_isStreet c d) (chkV rfl rfl rfl rfl rfl rfl) ?_
  refine Go_st rfl rfl ?_
  refine Go_ifF (by decide +kernel) ?_
  refine Go_st rfl rfl ?_
  exact Go_ret rfl ⟨_, rfl, rfl⟩
set_option maxRecDepth 20000 in
set_option maxHeartbeats 4000000 in
theorem rx_X8_sorted_v (d : Nat) (a1 : Int32) : pm_Rt pm_P (d + 2) 95 (hp0) [.ref 0, .int a1] (hp0) (some (.int (-2))) := by
  refine Rt_of aiX8_sorted (Nat.le_of_ble_eq_true rfl) ?_
  refine Go_st rfl rfl ?_
  refine Go_call rfl (rx_X8_hasStreet d) (chkV rfl rfl rfl rfl rfl rfl) ?_
  refine Go_st rfl rfl ?_
  refine Go_ifT (by decide +kernel) ?_
  refine Go_st rfl rfl ?_
  exact Go_ret rfl ⟨_, rfl, rfl⟩
set_option maxRecDepth 20000 in
set_option maxHeartbeats 4000000 in
theorem rm_X9_sorted_v (c : Nat → pm_E) (d : Nat) (a1 : Int32) : pm_Rt pm_P (d + 2) 201 (hpm c) [.ref 77, .int a1] (hpm c) (some (.int (-2))) := by
  refine Rt_of aiX9_sorted (Nat.le_of_ble_eq_true rfl) ?_
  refine Go_st rfl rfl ?_
  refine Go_st rfl rfl ?_
  refine Go_sm rfl rfl (sm_f rfl) ?_
  refine Go_st rfl rfl ?_
  refine Go_call rfl (rm_X9_isStreet c d) (chkV rfl rfl rfl rfl rfl rfl) ?_
  refine Go_st rfl rfl ?_
  refine Go_ifT (by decide +kernel) ?_
  refine Go_st rfl rfl ?_
  exact Go_ret rfl ⟨_, rfl, rfl⟩
set_option maxRecDepth 20000 in
set_option maxHeartbeats 4000000 in
theorem rx_X8_lawful (d : Nat)  : pm_Rt pm_P (d + 2) 60 (hp0) [.ref 0] (hp0) (some (.int (-2))) := by
  refine Rt_of aiX8_lawful (Nat.le_of_ble_eq_true rfl) ?_
  refine Go_st rfl rfl ?_
  refine Go_call rfl (rx_X8_hasStreet d) (chkV rfl rfl rfl rfl rfl rfl) ?_
  refine Go_st rfl rfl ?_
  refine Go_ifF (by decide +kernel) ?_
  refine Go_st rfl rfl ?_
  exact Go_ret rfl ⟨_, rfl, rfl⟩
set_option maxRecDepth 20000 in
set_option maxHeartbeats 4000000 in
theorem rm_X9_lawful (c : Nat → pm_E) (d : Nat)  : pm_Rt pm_P (d + 2) 170 (hpm c) [.ref 77] (hpm c) (some (.int (-2))) := by
  refine Rt_of aiX9_lawful (Nat.le_of_ble_eq_true rfl) ?_
  refine Go_st rfl rfl ?_
  refine Go_st rfl rfl ?_
  refine Go_sm rfl rfl (sm_f rfl) ?_
  refine Go_st rfl rfl ?_
  refine Go_call rfl (rm_X9_isStreet c d) (chkV rfl rfl rfl rfl rfl rfl) ?_
  refine Go_st rfl rfl ?_
  refine Go_ifF (by decide +kernel) ?_
  refine Go_st rfl rfl ?_
  exact Go_ret rfl ⟨_, rfl, rfl⟩
set_option maxRecDepth 20000 in
set_option maxHeartbeats 4000000 in
theorem rx_X8_prime (d : Nat)  : pm_Rt pm_P (d + 2) 76 (hp0) [.ref 0] (hp0) (some (.int (-2))) := by
  refine Rt_of aiX8_prime (Nat.le_of_ble_eq_true rfl) ?_
  refine Go_st rfl rfl ?_
  refine Go_call rfl (rx_X8_hasStreet d) (chkV rfl rfl rfl rfl rfl rfl) ?_
  refine Go_st rfl rfl ?_
  refine Go_ifF (by decide +kernel) ?_
  refine Go_st rfl rfl ?_
  exact Go_ret rfl ⟨_, rfl, rfl⟩
set_option maxRecDepth 20000 in
set_option maxHeartbeats 4000000 in
theorem rm_X9_prime (c : Nat → pm_E) (d : Nat)  : pm_Rt pm_P (d + 2) 187 (hpm c) [.ref 77] (hpm c) (some (.int (-2))) := by
  refine Rt_of aiX9_prime (Nat.le_of_ble_eq_true rfl) ?_
  refine Go_st rfl rfl ?_
  refine Go_st rfl rfl ?_
  refine Go_sm rfl rfl (sm_f rfl) ?_
  refine Go_st rfl rfl ?_
  refine Go_call rfl (rm_X9_isStreet c d) (chkV rfl rfl rfl rfl rfl rfl) ?_
  refine Go_st rfl rfl ?_
  refine Go_ifF (by decide +kernel) ?_
  refine Go_st rfl rfl ?_
  exact Go_ret rfl ⟨_, rfl, rfl⟩
set_option maxRecDepth 20000 in
set_option maxHeartbeats 4000000 in
theorem rx_X8_rowRefusal_0 (d : Nat)  : pm_Rt pm_P (d + 1) 86 (hp0) [.ref 0, .int 0] (hp0) (some (.int (-2))) := by
  refine Rt_of aiX8_rowRefusal (Nat.le_of_ble_eq_true rfl) ?_
  refine Go_st rfl rfl ?_
  refine Go_st rfl rfl ?_
  refine Go_ifF (by decide +kernel) ?_
  refine Go_st rfl rfl ?_
  exact Go_ret rfl ⟨_, rfl, rfl⟩
set_option maxRecDepth 20000 in
set_option maxHeartbeats 4000000 in
theorem rx_X8_breaks (d : Nat)  : pm_Rt pm_P (d + 2) 23 (hp0) [.ref 0] (hp0) (some (.int (-2))) := by
  refine Rt_of aiX8_breaks (Nat.le_of_ble_eq_true rfl) ?_
  refine Go_st rfl rfl ?_
  refine Go_st rfl rfl ?_
  refine Go_call rfl (rx_X8_hasStreet d) (chkV rfl rfl rfl rfl rfl rfl) ?_
  refine Go_call rfl (rx_X8_rowRefusal_0 d) (chkV rfl rfl rfl rfl rfl rfl) ?_
  refine Go_st rfl rfl ?_
  refine Go_st rfl rfl ?_
  refine Go_st rfl rfl ?_
  refine Go_ifF (by decide +kernel) ?_
  refine Go_st rfl rfl ?_
  exact Go_ret rfl ⟨_, rfl, rfl⟩
set_option maxRecDepth 20000 in
set_option maxHeartbeats 4000000 in
theorem rm_X9_breaks (c : Nat → pm_E) (d : Nat)  : pm_Rt pm_P (d + 2) 123 (hpm c) [.ref 77] (hpm c) (some (.int (-2))) := by
  refine Rt_of aiX9_breaks (Nat.le_of_ble_eq_true rfl) ?_
  refine Go_st rfl rfl ?_
  refine Go_st rfl rfl ?_
  refine Go_sm rfl rfl (sm_f rfl) ?_
  refine Go_st rfl rfl ?_
  refine Go_call rfl (rm_X9_isStreet c d) (chkV rfl rfl rfl rfl rfl rfl) ?_
  refine Go_st rfl rfl ?_
  refine Go_ifF (by decide +kernel) ?_
  refine Go_st rfl rfl ?_
  exact Go_ret rfl ⟨_, rfl, rfl⟩
set_option maxRecDepth 20000 in
set_option maxHeartbeats 4000000 in
theorem rx_X8_likes (d : Nat)  : pm_Rt pm_P (d + 2) 63 (hp0) [.ref 0] (hp0) (some (.int (-2))) := by
  refine Rt_of aiX8_likes (Nat.le_of_ble_eq_true rfl) ?_
  refine Go_st rfl rfl ?_
  refine Go_call rfl (rx_X8_hasStreet d) (chkV rfl rfl rfl rfl rfl rfl) ?_
  refine Go_st rfl rfl ?_
  refine Go_ifF (by decide +kernel) ?_
  refine Go_st rfl rfl ?_
  exact Go_ret rfl ⟨_, rfl, rfl⟩
set_option maxRecDepth 20000 in
set_option maxHeartbeats 4000000 in
theorem rm_X9_likes (c : Nat → pm_E) (d : Nat)  : pm_Rt pm_P (d + 2) 173 (hpm c) [.ref 77] (hpm c) (some (.int (-2))) := by
  refine Rt_of aiX9_likes (Nat.le_of_ble_eq_true rfl) ?_
  refine Go_st rfl rfl ?_
  refine Go_st rfl rfl ?_
  refine Go_sm rfl rfl (sm_f rfl) ?_
  refine Go_st rfl rfl ?_
  refine Go_call rfl (rm_X9_isStreet c d) (chkV rfl rfl rfl rfl rfl rfl) ?_
  refine Go_st rfl rfl ?_
  refine Go_ifF (by decide +kernel) ?_
  refine Go_st rfl rfl ?_
  exact Go_ret rfl ⟨_, rfl, rfl⟩
set_option maxRecDepth 20000 in
set_option maxHeartbeats 4000000 in
theorem rx_X8_ring_v (d : Nat) (a1 : Int32) : pm_Rt pm_P (d + 2) 84 (hp0) [.ref 0, .int a1] (hp0) (some (.int (-2))) := by
  refine Rt_of aiX8_ring (Nat.le_of_ble_eq_true rfl) ?_
  refine Go_st rfl rfl ?_
  refine Go_st rfl rfl ?_
  refine Go_call rfl (rx_X8_hasCar d _) (chkV rfl rfl rfl rfl rfl rfl) ?_
  refine Go_st rfl rfl ?_
  refine Go_ifF (by decide +kernel) ?_
  refine Go_st rfl rfl ?_
  exact Go_ret rfl ⟨_, rfl, rfl⟩
set_option maxRecDepth 20000 in
set_option maxHeartbeats 4000000 in
theorem rm_X9_ring_v (c : Nat → pm_E) (d : Nat) (a1 : Int32) : pm_Rt pm_P (d + 3) 194 (hpm c) [.ref 77, .int a1] (hpm c) (some (.int (-2))) := by
  refine Rt_of aiX9_ring (Nat.le_of_ble_eq_true rfl) ?_
  refine Go_st rfl rfl ?_
  refine Go_st rfl rfl ?_
  refine Go_sm rfl rfl (sm_f rfl) ?_
  refine Go_st rfl rfl ?_
  refine Go_st rfl rfl ?_
  refine Go_st rfl rfl ?_
  refine Go_call rfl (rm_X9_isCar_v c d _) (chkV rfl rfl rfl rfl rfl rfl) ?_
  refine Go_st rfl rfl ?_
  refine Go_ifF (by decide +kernel) ?_
  refine Go_st rfl rfl ?_
  exact Go_ret rfl ⟨_, rfl, rfl⟩
set_option maxRecDepth 20000 in
set_option maxHeartbeats 4000000 in
theorem rx_X8_hole (d : Nat)  : pm_Rt pm_P (d + 2) 49 (hp0) [.ref 0] (hp0) (some (.int (-2))) := by
  refine Rt_of aiX8_hole (Nat.le_of_ble_eq_true rfl) ?_
  refine Go_st rfl rfl ?_
  refine Go_call rfl (rx_X8_hasStreet d) (chkV rfl rfl rfl rfl rfl rfl) ?_
  refine Go_st rfl rfl ?_
  refine Go_ifF (by decide +kernel) ?_
  refine Go_st rfl rfl ?_
  exact Go_ret rfl ⟨_, rfl, rfl⟩
set_option maxRecDepth 20000 in
set_option maxHeartbeats 4000000 in
theorem rm_X9_hole (c : Nat → pm_E) (d : Nat)  : pm_Rt pm_P (d + 2) 149 (hpm c) [.ref 77] (hpm c) (some (.int (-2))) := by
  refine Rt_of aiX9_hole (Nat.le_of_ble_eq_true rfl) ?_
  refine Go_st rfl rfl ?_
  refine Go_st rfl rfl ?_
  refine Go_sm rfl rfl (sm_f rfl) ?_
  refine Go_st rfl rfl ?_
  refine Go_call rfl (rm_X9_isStreet c d) (chkV rfl rfl rfl rfl rfl rfl) ?_
  refine Go_st rfl rfl ?_
  refine Go_ifF (by decide +kernel) ?_
  refine Go_st rfl rfl ?_
  exact Go_ret rfl ⟨_, rfl, rfl⟩
set_option maxRecDepth 20000 in
set_option maxHeartbeats 4000000 in
theorem rx_X8_shifts (d : Nat)  : pm_Rt pm_P (d + 2) 92 (hp0) [.ref 0] (hp0) (some (.int (-2))) := by
  refine Rt_of aiX8_shifts (Nat.le_of_ble_eq_true rfl) ?_
  refine Go_st rfl rfl ?_
  refine Go_call rfl (rx_X8_hasStreet d) (chkV rfl rfl rfl rfl rfl rfl) ?_
  refine Go_st rfl rfl ?_
  refine Go_ifF (by decide +kernel) ?_
  refine Go_st rfl rfl ?_
  exact Go_ret rfl ⟨_, rfl, rfl⟩
set_option maxRecDepth 20000 in
set_option maxHeartbeats 4000000 in
theorem rm_X9_shifts (c : Nat → pm_E) (d : Nat)  : pm_Rt pm_P (d + 2) 200 (hpm c) [.ref 77] (hpm c) (some (.int (-2))) := by
  refine Rt_of aiX9_shifts (Nat.le_of_ble_eq_true rfl) ?_
  refine Go_st rfl rfl ?_
  refine Go_st rfl rfl ?_
  refine Go_sm rfl rfl (sm_f rfl) ?_
  refine Go_st rfl rfl ?_
  refine Go_call rfl (rm_X9_isStreet c d) (chkV rfl rfl rfl rfl rfl rfl) ?_
  refine Go_st rfl rfl ?_
  refine Go_ifF (by decide +kernel) ?_
  refine Go_st rfl rfl ?_
  exact Go_ret rfl ⟨_, rfl, rfl⟩
set_option maxRecDepth 20000 in
set_option maxHeartbeats 4000000 in
theorem rx_X8_shifted_v_v (d : Nat) (a1 : Int32) (a2 : Int32) : pm_Rt pm_P (d + 2) 91 (hp0) [.ref 0, .int a1, .int a2] (hp0) (some (.int (-2))) := by
  refine Rt_of aiX8_shifted (Nat.le_of_ble_eq_true rfl) ?_
  refine Go_st rfl rfl ?_
  refine Go_st rfl rfl ?_
  refine Go_call rfl (rx_X8_hasCar d _) (chkV rfl rfl rfl rfl rfl rfl) ?_
  refine Go_st rfl rfl ?_
  refine Go_ifT (by decide +kernel) ?_
  refine Go_st rfl rfl ?_
  exact Go_ret rfl ⟨_, rfl, rfl⟩
set_option maxRecDepth 20000 in
set_option maxHeartbeats 4000000 in
theorem rm_X9_shifted_v_v (c : Nat → pm_E) (d : Nat) (a1 : Int32) (a2 : Int32) : pm_Rt pm_P (d + 3) 199 (hpm c) [.ref 77, .int a1, .int a2] (hpm c) (some (.int (-2))) := by
  refine Rt_of aiX9_shifted (Nat.le_of_ble_eq_true rfl) ?_
  refine Go_st rfl rfl ?_
  refine Go_st rfl rfl ?_
  refine Go_sm rfl rfl (sm_f rfl) ?_
  refine Go_st rfl rfl ?_
  refine Go_st rfl rfl ?_
  refine Go_st rfl rfl ?_
  refine Go_call rfl (rm_X9_isCar_v c d _) (chkV rfl rfl rfl rfl rfl rfl) ?_
  refine Go_st rfl rfl ?_
  refine Go_ifT (by decide +kernel) ?_
  refine Go_st rfl rfl ?_
  exact Go_ret rfl ⟨_, rfl, rfl⟩
set_option maxRecDepth 20000 in
set_option maxHeartbeats 4000000 in
theorem rx_X8_hangTree_0 (d : Nat)  : pm_Rt pm_P (d + 2) 42 (hp0) [.ref 0, .int 0] (hp0) (some (.int (-2))) := by
  refine Rt_of aiX8_hangTree (Nat.le_of_ble_eq_true rfl) ?_
  refine Go_st rfl rfl ?_
  refine Go_st rfl rfl ?_
  refine Go_call rfl (rx_X8_rowRefusal_0 d) (chkV rfl rfl rfl rfl rfl rfl) ?_
  refine Go_st rfl rfl ?_
  refine Go_st rfl rfl ?_
  refine Go_st rfl rfl ?_
  refine Go_ifT (by decide +kernel) ?_
  refine Go_st rfl rfl ?_
  exact Go_ret rfl ⟨_, rfl, rfl⟩
set_option maxRecDepth 20000 in
set_option maxHeartbeats 4000000 in
theorem rx_X8_parent_v (d : Nat) (a1 : Int32) : pm_Rt pm_P (d + 3) 73 (hp0) [.ref 0, .int a1] (hp0) (some (.int (-2))) := by
  refine Rt_of aiX8_parent (Nat.le_of_ble_eq_true rfl) ?_
  refine Go_st rfl rfl ?_
  refine Go_st rfl rfl ?_
  refine Go_st rfl rfl ?_
  refine Go_call rfl (rx_X8_hasCar (d + 1) _) (chkV rfl rfl rfl rfl rfl rfl) ?_
  refine Go_call rfl (rx_X8_hangTree_0 d) (chkV rfl rfl rfl rfl rfl rfl) ?_
  refine Go_st rfl rfl ?_
  refine Go_st rfl rfl ?_
  refine Go_st rfl rfl ?_
  refine Go_ifF (by decide +kernel) ?_
  refine Go_st rfl rfl ?_
  refine Go_st rfl rfl ?_
  exact Go_ret rfl ⟨_, rfl, rfl⟩
set_option maxRecDepth 20000 in
set_option maxHeartbeats 4000000 in
theorem rm_X9_parent_v (c : Nat → pm_E) (d : Nat) (a1 : Int32) : pm_Rt pm_P (d + 3) 183 (hpm c) [.ref 77, .int a1] (hpm c) (some (.int (-2))) := by
  refine Rt_of aiX9_parent (Nat.le_of_ble_eq_true rfl) ?_
  refine Go_st rfl rfl ?_
  refine Go_st rfl rfl ?_
  refine Go_sm rfl rfl (sm_f rfl) ?_
  refine Go_st rfl rfl ?_
  refine Go_st rfl rfl ?_
  refine Go_st rfl rfl ?_
  refine Go_call rfl (rm_X9_isCar_v c d _) (chkV rfl rfl rfl rfl rfl rfl) ?_
  refine Go_st rfl rfl ?_
  refine Go_ifF (by decide +kernel) ?_
  refine Go_st rfl rfl ?_
  exact Go_ret rfl ⟨_, rfl, rfl⟩
set_option maxRecDepth 20000 in
set_option maxHeartbeats 4000000 in
theorem rx_X8_depth_v (d : Nat) (a1 : Int32) : pm_Rt pm_P (d + 3) 31 (hp0) [.ref 0, .int a1] (hp0) (some (.int (-2))) := by
  refine Rt_of aiX8_depth (Nat.le_of_ble_eq_true rfl) ?_
  refine Go_st rfl rfl ?_
  refine Go_st rfl rfl ?_
  refine Go_st rfl rfl ?_
  refine Go_call rfl (rx_X8_hasCar (d + 1) _) (chkV rfl rfl rfl rfl rfl rfl) ?_
  refine Go_call rfl (rx_X8_hangTree_0 d) (chkV rfl rfl rfl rfl rfl rfl) ?_
  refine Go_st rfl rfl ?_
  refine Go_st rfl rfl ?_
  refine Go_st rfl rfl ?_
  refine Go_ifF (by decide +kernel) ?_
  refine Go_st rfl rfl ?_
  refine Go_st rfl rfl ?_
  exact Go_ret rfl ⟨_, rfl, rfl⟩
set_option maxRecDepth 20000 in
set_option maxHeartbeats 4000000 in
theorem rm_X9_depth_v (c : Nat → pm_E) (d : Nat) (a1 : Int32) : pm_Rt pm_P (d + 3) 135 (hpm c) [.ref 77, .int a1] (hpm c) (some (.int (-2))) := by
  refine Rt_of aiX9_depth (Nat.le_of_ble_eq_true rfl) ?_
  refine Go_st rfl rfl ?_
  refine Go_st rfl rfl ?_
  refine Go_sm rfl rfl (sm_f rfl) ?_
  refine Go_st rfl rfl ?_
  refine Go_st rfl rfl ?_
  refine Go_st rfl rfl ?_
  refine Go_call rfl (rm_X9_isCar_v c d _) (chkV rfl rfl rfl rfl rfl rfl) ?_
  refine Go_st rfl rfl ?_
  refine Go_ifF (by decide +kernel) ?_
  refine Go_st rfl rfl ?_
  exact Go_ret rfl ⟨_, rfl, rfl⟩
set_option maxRecDepth 20000 in
set_option maxHeartbeats 4000000 in
theorem rx_X8_kids_v (d : Nat) (a1 : Int32) : pm_Rt pm_P (d + 3) 56 (hp0) [.ref 0, .int a1] (hp0) (some (.int (-2))) := by
  refine Rt_of aiX8_kids (Nat.le_of_ble_eq_true rfl) ?_
  refine Go_st rfl rfl ?_
  refine Go_st rfl rfl ?_
  refine Go_call rfl (rx_X8_hasStreet (d + 1)) (chkV rfl rfl rfl rfl rfl rfl) ?_
  refine Go_st rfl rfl ?_
  refine Go_ifT (by decide +kernel) ?_
  refine Go_st rfl rfl ?_
  refine Go_call rfl (rx_X8_hangTree_0 d) (chkV rfl rfl rfl rfl rfl rfl) ?_
  refine Go_st rfl rfl ?_
  refine Go_st rfl rfl ?_
  refine Go_st rfl rfl ?_
  refine Go_ifF (by decide +kernel) ?_
  refine Go_st rfl rfl ?_
  refine Go_st rfl rfl ?_
  exact Go_ret rfl ⟨_, rfl, rfl⟩
set_option maxRecDepth 20000 in
set_option maxHeartbeats 4000000 in
theorem rm_X9_isNode_v (c : Nat → pm_E) (d : Nat) (a1 : Int32) : pm_Rt pm_P (d + 2) 158 (hpm c) [.ref 77, .int a1] (hpm c) (some (.int 0)) := by
  refine Rt_of aiX9_isNode (Nat.le_of_ble_eq_true rfl) ?_
  refine Go_st rfl rfl ?_
  refine Go_call rfl (rm_X9_isStreet c d) (chkV rfl rfl rfl rfl rfl rfl) ?_
  refine Go_st rfl rfl ?_
  refine Go_ifT (by decide +kernel) ?_
  refine Go_st rfl rfl ?_
  exact Go_ret rfl ⟨_, rfl, by decide, rfl⟩
set_option maxRecDepth 20000 in
set_option maxHeartbeats 4000000 in
theorem rm_X9_kids_v (c : Nat → pm_E) (d : Nat) (a1 : Int32) : pm_Rt pm_P (d + 3) 166 (hpm c) [.ref 77, .int a1] (hpm c) (some (.int (-2))) := by
  refine Rt_of aiX9_kids (Nat.le_of_ble_eq_true rfl) ?_
  refine Go_st rfl rfl ?_
  refine Go_st rfl rfl ?_
  refine Go_sm rfl rfl (sm_f rfl) ?_
  refine Go_st rfl rfl ?_
  refine Go_st rfl rfl ?_
  refine Go_call rfl (rm_X9_isNode_v c d _) (chkV rfl rfl rfl rfl rfl rfl) ?_
  refine Go_st rfl rfl ?_
  refine Go_ifF (by decide +kernel) ?_
  refine Go_st rfl rfl ?_
  exact Go_ret rfl ⟨_, rfl, rfl⟩
set_option maxRecDepth 20000 in
set_option maxHeartbeats 4000000 in
theorem rx_X8_queue_v (d : Nat) (a1 : Int32) : pm_Rt pm_P (d + 3) 77 (hp0) [.ref 0, .int a1] (hp0) (some (.int (-2))) := by
  refine Rt_of aiX8_queue (Nat.le_of_ble_eq_true rfl) ?_
  refine Go_st rfl rfl ?_
  refine Go_st rfl rfl ?_
  refine Go_call rfl (rx_X8_hasStreet (d + 1)) (chkV rfl rfl rfl rfl rfl rfl) ?_
  refine Go_st rfl rfl ?_
  refine Go_ifT (by decide +kernel) ?_
  refine Go_st rfl rfl ?_
  refine Go_call rfl (rx_X8_hangTree_0 d) (chkV rfl rfl rfl rfl rfl rfl) ?_
  refine Go_st rfl rfl ?_
  refine Go_st rfl rfl ?_
  refine Go_st rfl rfl ?_
  refine Go_ifF (by decide +kernel) ?_
  refine Go_st rfl rfl ?_
  refine Go_st rfl rfl ?_
  exact Go_ret rfl ⟨_, rfl, rfl⟩
set_option maxRecDepth 20000 in
set_option maxHeartbeats 4000000 in
theorem rm_X9_queue_v (c : Nat → pm_E) (d : Nat) (a1 : Int32) : pm_Rt pm_P (d + 3) 188 (hpm c) [.ref 77, .int a1] (hpm c) (some (.int (-2))) := by
  refine Rt_of aiX9_queue (Nat.le_of_ble_eq_true rfl) ?_
  refine Go_st rfl rfl ?_
  refine Go_st rfl rfl ?_
  refine Go_sm rfl rfl (sm_f rfl) ?_
  refine Go_st rfl rfl ?_
  refine Go_st rfl rfl ?_
  refine Go_call rfl (rm_X9_isNode_v c d _) (chkV rfl rfl rfl rfl rfl rfl) ?_
  refine Go_st rfl rfl ?_
  refine Go_ifF (by decide +kernel) ?_
  refine Go_st rfl rfl ?_
  exact Go_ret rfl ⟨_, rfl, rfl⟩
set_option maxRecDepth 20000 in
set_option maxHeartbeats 4000000 in
theorem rx_X8_leaves (d : Nat)  : pm_Rt pm_P (d + 3) 62 (hp0) [.ref 0] (hp0) (some (.int (-2))) := by
  refine Rt_of aiX8_leaves (Nat.le_of_ble_eq_true rfl) ?_
  refine Go_st rfl rfl ?_
  refine Go_st rfl rfl ?_
  refine Go_call rfl (rx_X8_hasStreet (d + 1)) (chkV rfl rfl rfl rfl rfl rfl) ?_
  refine Go_call rfl (rx_X8_hangTree_0 d) (chkV rfl rfl rfl rfl rfl rfl) ?_
  refine Go_st rfl rfl ?_
  refine Go_st rfl rfl ?_
  refine Go_st rfl rfl ?_
  refine Go_ifF (by decide +kernel) ?_
  refine Go_st rfl rfl ?_
  exact Go_ret rfl ⟨_, rfl, rfl⟩
set_option maxRecDepth 20000 in
set_option maxHeartbeats 4000000 in
theorem rm_X9_leaves (c : Nat → pm_E) (d : Nat)  : pm_Rt pm_P (d + 2) 172 (hpm c) [.ref 77] (hpm c) (some (.int (-2))) := by
  refine Rt_of aiX9_leaves (Nat.le_of_ble_eq_true rfl) ?_
  refine Go_st rfl rfl ?_
  refine Go_st rfl rfl ?_
  refine Go_sm rfl rfl (sm_f rfl) ?_
  refine Go_st rfl rfl ?_
  refine Go_call rfl (rm_X9_isStreet c d) (chkV rfl rfl rfl rfl rfl rfl) ?_
  refine Go_st rfl rfl ?_
  refine Go_ifF (by decide +kernel) ?_
  refine Go_st rfl rfl ?_
  exact Go_ret rfl ⟨_, rfl, rfl⟩
set_option maxRecDepth 20000 in
set_option maxHeartbeats 4000000 in
theorem rx_X8_inversions (d : Nat)  : pm_Rt pm_P (d + 3) 52 (hp0) [.ref 0] (hp0) (some (.int (-2))) := by
  refine Rt_of aiX8_inversions (Nat.le_of_ble_eq_true rfl) ?_
  refine Go_st rfl rfl ?_
  refine Go_st rfl rfl ?_
  refine Go_call rfl (rx_X8_hasStreet (d + 1)) (chkV rfl rfl rfl rfl rfl rfl) ?_
  refine Go_call rfl (rx_X8_hangTree_0 d) (chkV rfl rfl rfl rfl rfl rfl) ?_
  refine Go_st rfl rfl ?_
  refine Go_st rfl rfl ?_
  refine Go_st rfl rfl ?_
  refine Go_ifF (by decide +kernel) ?_
  refine Go_st rfl rfl ?_
  refine Go_st rfl rfl ?_
  exact Go_ret rfl ⟨_, rfl, rfl⟩
set_option maxRecDepth 20000 in
set_option maxHeartbeats 4000000 in
theorem rm_X9_inversions (c : Nat → pm_E) (d : Nat)  : pm_Rt pm_P (d + 2) 153 (hpm c) [.ref 77] (hpm c) (some (.int (-2))) := by
  refine Rt_of aiX9_inversions (Nat.le_of_ble_eq_true rfl) ?_
  refine Go_st rfl rfl ?_
  refine Go_st rfl rfl ?_
  refine Go_sm rfl rfl (sm_f rfl) ?_
  refine Go_st rfl rfl ?_
  refine Go_call rfl (rm_X9_isStreet c d) (chkV rfl rfl rfl rfl rfl rfl) ?_
  refine Go_st rfl rfl ?_
  refine Go_ifF (by decide +kernel) ?_
  refine Go_st rfl rfl ?_
  exact Go_ret rfl ⟨_, rfl, rfl⟩
set_option maxRecDepth 20000 in
set_option maxHeartbeats 4000000 in
theorem rx_X8_code_v (d : Nat) (a1 : Int32) : pm_Rt pm_P (d + 3) 29 (hp0) [.ref 0, .int a1] (hp0) (some (.int (-2))) := by
  refine Rt_of aiX8_code (Nat.le_of_ble_eq_true rfl) ?_
  refine Go_st rfl rfl ?_
  refine Go_st rfl rfl ?_
  refine Go_call rfl (rx_X8_hasStreet (d + 1)) (chkV rfl rfl rfl rfl rfl rfl) ?_
  refine Go_st rfl rfl ?_
  refine Go_ifT (by decide +kernel) ?_
  refine Go_st rfl rfl ?_
  refine Go_call rfl (rx_X8_hangTree_0 d) (chkV rfl rfl rfl rfl rfl rfl) ?_
  refine Go_st rfl rfl ?_
  refine Go_st rfl rfl ?_
  refine Go_st rfl rfl ?_
  refine Go_ifF (by decide +kernel) ?_
  refine Go_st rfl rfl ?_
  exact Go_ret rfl ⟨_, rfl, rfl⟩
set_option maxRecDepth 20000 in
set_option maxHeartbeats 4000000 in
theorem rm_X9_code_v (c : Nat → pm_E) (d : Nat) (a1 : Int32) : pm_Rt pm_P (d + 2) 131 (hpm c) [.ref 77, .int a1] (hpm c) (some (.int (-2))) := by
  refine Rt_of aiX9_code (Nat.le_of_ble_eq_true rfl) ?_
  refine Go_st rfl rfl ?_
  refine Go_st rfl rfl ?_
  refine Go_sm rfl rfl (sm_f rfl) ?_
  refine Go_st rfl rfl ?_
  refine Go_call rfl (rm_X9_isStreet c d) (chkV rfl rfl rfl rfl rfl rfl) ?_
  refine Go_st rfl rfl ?_
  refine Go_ifT (by decide +kernel) ?_
  refine Go_st rfl rfl ?_
  exact Go_ret rfl ⟨_, rfl, rfl⟩
set_option maxRecDepth 20000 in
set_option maxHeartbeats 4000000 in
theorem rx_X8_searchTree_0 (d : Nat)  : pm_Rt pm_P (d + 2) 89 (hp0) [.ref 0, .int 0] (hp0) (some (.int (-2))) := by
  refine Rt_of aiX8_searchTree (Nat.le_of_ble_eq_true rfl) ?_
  refine Go_st rfl rfl ?_
  refine Go_st rfl rfl ?_
  refine Go_call rfl (rx_X8_rowRefusal_0 d) (chkV rfl rfl rfl rfl rfl rfl) ?_
  refine Go_st rfl rfl ?_
  refine Go_st rfl rfl ?_
  refine Go_st rfl rfl ?_
  refine Go_ifT (by decide +kernel) ?_
  refine Go_st rfl rfl ?_
  exact Go_ret rfl ⟨_, rfl, rfl⟩
set_option maxRecDepth 20000 in
set_option maxHeartbeats 4000000 in
theorem rx_X8_burnt_v (d : Nat) (a1 : Int32) : pm_Rt pm_P (d + 3) 24 (hp0) [.ref 0, .int a1] (hp0) (some (.int (-2))) := by
  refine Rt_of aiX8_burnt (Nat.le_of_ble_eq_true rfl) ?_
  refine Go_st rfl rfl ?_
  refine Go_st rfl rfl ?_
  refine Go_st rfl rfl ?_
  refine Go_call rfl (rx_X8_hasCar (d + 1) _) (chkV rfl rfl rfl rfl rfl rfl) ?_
  refine Go_call rfl (rx_X8_searchTree_0 d) (chkV rfl rfl rfl rfl rfl rfl) ?_
  refine Go_st rfl rfl ?_
  refine Go_st rfl rfl ?_
  refine Go_st rfl rfl ?_
  refine Go_ifF (by decide +kernel) ?_
  refine Go_st rfl rfl ?_
  refine Go_st rfl rfl ?_
  exact Go_ret rfl ⟨_, rfl, rfl⟩
set_option maxRecDepth 20000 in
set_option maxHeartbeats 4000000 in
theorem rm_X9_burnt_v (c : Nat → pm_E) (d : Nat) (a1 : Int32) : pm_Rt pm_P (d + 3) 124 (hpm c) [.ref 77, .int a1] (hpm c) (some (.int (-2))) := by
  refine Rt_of aiX9_burnt (Nat.le_of_ble_eq_true rfl) ?_
  refine Go_st rfl rfl ?_
  refine Go_st rfl rfl ?_
  refine Go_sm rfl rfl (sm_f rfl) ?_
  refine Go_st rfl rfl ?_
  refine Go_st rfl rfl ?_
  refine Go_st rfl rfl ?_
  refine Go_call rfl (rm_X9_isCar_v c d _) (chkV rfl rfl rfl rfl rfl rfl) ?_
  refine Go_st rfl rfl ?_
  refine Go_ifF (by decide +kernel) ?_
  refine Go_st rfl rfl ?_
  exact Go_ret rfl ⟨_, rfl, rfl⟩
set_option maxRecDepth 20000 in
set_option maxHeartbeats 4000000 in
theorem rx_X8_turned (d : Nat)  : pm_Rt pm_P (d + 3) 103 (hp0) [.ref 0] (hp0) (some (.int (-2))) := by
  refine Rt_of aiX8_turned (Nat.le_of_ble_eq_true rfl) ?_
  refine Go_st rfl rfl ?_
  refine Go_st rfl rfl ?_
  refine Go_call rfl (rx_X8_hasStreet (d + 1)) (chkV rfl rfl rfl rfl rfl rfl) ?_
  refine Go_call rfl (rx_X8_searchTree_0 d) (chkV rfl rfl rfl rfl rfl rfl) ?_
  refine Go_st rfl rfl ?_
  refine Go_st rfl rfl ?_
  refine Go_st rfl rfl ?_
  refine Go_ifF (by decide +kernel) ?_
  refine Go_st rfl rfl ?_
  refine Go_st rfl rfl ?_
  exact Go_ret rfl ⟨_, rfl, rfl⟩
set_option maxRecDepth 20000 in
set_option maxHeartbeats 4000000 in
theorem rm_X9_turned (c : Nat → pm_E) (d : Nat)  : pm_Rt pm_P (d + 2) 209 (hpm c) [.ref 77] (hpm c) (some (.int (-2))) := by
  refine Rt_of aiX9_turned (Nat.le_of_ble_eq_true rfl) ?_
  refine Go_st rfl rfl ?_
  refine Go_st rfl rfl ?_
  refine Go_sm rfl rfl (sm_f rfl) ?_
  refine Go_st rfl rfl ?_
  refine Go_call rfl (rm_X9_isStreet c d) (chkV rfl rfl rfl rfl rfl rfl) ?_
  refine Go_st rfl rfl ?_
  refine Go_ifF (by decide +kernel) ?_
  refine Go_st rfl rfl ?_
  exact Go_ret rfl ⟨_, rfl, rfl⟩
set_option maxRecDepth 20000 in
set_option maxHeartbeats 4000000 in
theorem rx_X8_visit_v (d : Nat) (a1 : Int32) : pm_Rt pm_P (d + 3) 106 (hp0) [.ref 0, .int a1] (hp0) (some (.int (-2))) := by
  refine Rt_of aiX8_visit (Nat.le_of_ble_eq_true rfl) ?_
  refine Go_st rfl rfl ?_
  refine Go_st rfl rfl ?_
  refine Go_call rfl (rx_X8_hasStreet (d + 1)) (chkV rfl rfl rfl rfl rfl rfl) ?_
  refine Go_st rfl rfl ?_
  refine Go_ifT (by decide +kernel) ?_
  refine Go_st rfl rfl ?_
  refine Go_call rfl (rx_X8_searchTree_0 d) (chkV rfl rfl rfl rfl rfl rfl) ?_
  refine Go_st rfl rfl ?_
  refine Go_st rfl rfl ?_
  refine Go_st rfl rfl ?_
  refine Go_ifF (by decide +kernel) ?_
  refine Go_st rfl rfl ?_
  refine Go_st rfl rfl ?_
  exact Go_ret rfl ⟨_, rfl, rfl⟩
set_option maxRecDepth 20000 in
set_option maxHeartbeats 4000000 in
theorem rm_X9_visit_v (c : Nat → pm_E) (d : Nat) (a1 : Int32) : pm_Rt pm_P (d + 3) 212 (hpm c) [.ref 77, .int a1] (hpm c) (some (.int (-2))) := by
  refine Rt_of aiX9_visit (Nat.le_of_ble_eq_true rfl) ?_
  refine Go_st rfl rfl ?_
  refine Go_st rfl rfl ?_
  refine Go_sm rfl rfl (sm_f rfl) ?_
  refine Go_st rfl rfl ?_
  refine Go_st rfl rfl ?_
  refine Go_call rfl (rm_X9_isNode_v c d _) (chkV rfl rfl rfl rfl rfl rfl) ?_
  refine Go_st rfl rfl ?_
  refine Go_ifF (by decide +kernel) ?_
  refine Go_st rfl rfl ?_
  exact Go_ret rfl ⟨_, rfl, rfl⟩
set_option maxRecDepth 20000 in
set_option maxHeartbeats 4000000 in
theorem rx_X8_readCode_v_0 (d : Nat) (a1 : Int32) : pm_Rt pm_P (d + 2) 79 (hp0) [.ref 0, .int a1, .int 0] (hp0) (some (.int (-2))) := by
  refine Rt_of aiX8_readCode (Nat.le_of_ble_eq_true rfl) ?_
  refine Go_st rfl rfl ?_
  obtain ⟨rr, hrr, hcc⟩ := rx_isSlot (hp0) d a1
  rcases hrr with rfl | rfl
  · refine Go_call rfl hcc (chkS rfl rfl rfl rfl) ?_
    refine Go_st rfl rfl ?_
    refine Go_ifT (by decide +kernel) ?_
    refine Go_st rfl rfl ?_
    exact Go_ret rfl ⟨_, rfl, rfl⟩
  · refine Go_call rfl hcc (chkS rfl rfl rfl rfl) ?_
    refine Go_st rfl rfl ?_
    refine Go_ifF (by decide +kernel) ?_
    refine Go_st rfl rfl ?_
    refine Go_st rfl rfl ?_
    refine Go_ifF (by decide +kernel) ?_
    refine Go_st rfl rfl ?_
    exact Go_ret rfl ⟨_, rfl, rfl⟩
set_option maxRecDepth 20000 in
set_option maxHeartbeats 4000000 in
theorem rx_X8_above_v_v (d : Nat) (a1 : Int32) (a2 : Int32) : pm_Rt pm_P (d + 3) 14 (hp0) [.ref 0, .int a1, .int a2] (hp0) (some (.int (-2))) := by
  refine Rt_of aiX8_above (Nat.le_of_ble_eq_true rfl) ?_
  refine Go_st rfl rfl ?_
  refine Go_st rfl rfl ?_
  refine Go_st rfl rfl ?_
  refine Go_st rfl rfl ?_
  refine Go_call rfl (rx_X8_isTreeCar (d + 1) _) (chkV rfl rfl rfl rfl rfl rfl) ?_
  refine Go_call rfl (rx_X8_readCode_v_0 d _) (chkV rfl rfl rfl rfl rfl rfl) ?_
  refine Go_st rfl rfl ?_
  refine Go_st rfl rfl ?_
  refine Go_st rfl rfl ?_
  refine Go_ifF (by decide +kernel) ?_
  refine Go_st rfl rfl ?_
  refine Go_st rfl rfl ?_
  exact Go_ret rfl ⟨_, rfl, rfl⟩
set_option maxRecDepth 20000 in
set_option maxHeartbeats 4000000 in
theorem rm_X9_places (c : Nat → pm_E) (d : Nat)  : pm_Rt pm_P (d + 1) 186 (hpm c) [.ref 77] (hpm c) (some (.int 0)) := by
  refine Rt_of aiX9_places (Nat.le_of_ble_eq_true rfl) ?_
  refine Go_st rfl rfl ?_
  refine Go_st rfl rfl ?_
  refine Go_st rfl rfl ?_
  refine Go_iald (v := 0) rfl rfl (by decide +kernel) (by decide +kernel) ?_
  exact Go_ret rfl ⟨_, rfl, rfl⟩
set_option maxRecDepth 20000 in
set_option maxHeartbeats 4000000 in
theorem rm_X9_whyNotCode_v_0 (c : Nat → pm_E) (d : Nat) (a1 : Int32) : pm_Rt pm_P (d + 3) 215 (hpm c) [.ref 77, .int a1, .int 0] (hpm c) (some (.int (-2))) := by
  refine Rt_of aiX9_whyNotCode (Nat.le_of_ble_eq_true rfl) ?_
  refine Go_st rfl rfl ?_
  obtain ⟨rr, hrr, hcc⟩ := rm_isSlot (hpm c) d a1
  rcases hrr with rfl | rfl
  · refine Go_call rfl hcc (chkS rfl rfl rfl rfl) ?_
    refine Go_st rfl rfl ?_
    refine Go_ifT (by decide +kernel) ?_
    refine Go_st rfl rfl ?_
    exact Go_ret rfl ⟨_, rfl, rfl⟩
  · refine Go_call rfl hcc (chkS rfl rfl rfl rfl) ?_
    refine Go_st rfl rfl ?_
    refine Go_ifF (by decide +kernel) ?_
    refine Go_st rfl rfl ?_
    refine Go_call rfl (rm_X9_isStreet c (d + 1)) (chkV rfl rfl rfl rfl rfl rfl) ?_
    refine Go_st rfl rfl ?_
    refine Go_ifT (by decide +kernel) ?_
    refine Go_st rfl rfl ?_
    exact Go_ret rfl ⟨_, rfl, rfl⟩
set_option maxRecDepth 20000 in
set_option maxHeartbeats 4000000 in
theorem rm_X9_above_v_v (c : Nat → pm_E) (d : Nat) (a1 : Int32) (a2 : Int32) : pm_Rt pm_P (d + 4) 112 (hpm c) [.ref 77, .int a1, .int a2] (hpm c) (some (.int (-2))) := by
  refine Rt_of aiX9_above (Nat.le_of_ble_eq_true rfl) ?_
  refine Go_st rfl rfl ?_
  refine Go_st rfl rfl ?_
  refine Go_sm rfl rfl (sm_f rfl) ?_
  refine Go_st rfl rfl ?_
  refine Go_st rfl rfl ?_
  refine Go_st rfl rfl ?_
  refine Go_st rfl rfl ?_
  refine Go_st rfl rfl ?_
  refine Go_st rfl rfl ?_
  refine Go_call rfl (rm_X9_places c (d + 2)) (chkV rfl rfl rfl rfl rfl rfl) ?_
  refine Go_st rfl rfl ?_
  refine Go_st rfl rfl ?_
  refine Go_st rfl rfl ?_
  refine Go_call rfl (rm_in0 _ (d + 2) _ _ _ (pm_no (by decide +kernel))) (chkS rfl rfl rfl rfl) ?_
  refine Go_call rfl (rm_X9_whyNotCode_v_0 c d _) (chkV rfl rfl rfl rfl rfl rfl) ?_
  refine Go_st rfl rfl ?_
  refine Go_st rfl rfl ?_
  refine Go_st rfl rfl ?_
  refine Go_ifF (by decide +kernel) ?_
  refine Go_st rfl rfl ?_
  exact Go_ret rfl ⟨_, rfl, rfl⟩
set_option maxRecDepth 20000 in
set_option maxHeartbeats 4000000 in
theorem rx_X8_wish_v_v (d : Nat) (a1 : Int32) (a2 : Int32) : pm_Rt pm_P (d + 3) 108 (hp0) [.ref 0, .int a1, .int a2] (hp0) (some (.int (-2))) := by
  refine Rt_of aiX8_wish (Nat.le_of_ble_eq_true rfl) ?_
  refine Go_st rfl rfl ?_
  refine Go_st rfl rfl ?_
  refine Go_st rfl rfl ?_
  refine Go_st rfl rfl ?_
  refine Go_call rfl (rx_X8_isTreeCar (d + 1) _) (chkV rfl rfl rfl rfl rfl rfl) ?_
  refine Go_call rfl (rx_X8_readCode_v_0 d _) (chkV rfl rfl rfl rfl rfl rfl) ?_
  refine Go_st rfl rfl ?_
  refine Go_st rfl rfl ?_
  refine Go_st rfl rfl ?_
  refine Go_ifF (by decide +kernel) ?_
  refine Go_st rfl rfl ?_
  refine Go_st rfl rfl ?_
  exact Go_ret rfl ⟨_, rfl, rfl⟩
set_option maxRecDepth 20000 in
set_option maxHeartbeats 4000000 in
theorem rm_X9_wish_v_v (c : Nat → pm_E) (d : Nat) (a1 : Int32) (a2 : Int32) : pm_Rt pm_P (d + 4) 216 (hpm c) [.ref 77, .int a1, .int a2] (hpm c) (some (.int (-2))) := by
  refine Rt_of aiX9_wish (Nat.le_of_ble_eq_true rfl) ?_
  refine Go_st rfl rfl ?_
  refine Go_st rfl rfl ?_
  refine Go_sm rfl rfl (sm_f rfl) ?_
  refine Go_st rfl rfl ?_
  refine Go_st rfl rfl ?_
  refine Go_st rfl rfl ?_
  refine Go_st rfl rfl ?_
  refine Go_st rfl rfl ?_
  refine Go_st rfl rfl ?_
  refine Go_call rfl (rm_X9_places c (d + 2)) (chkV rfl rfl rfl rfl rfl rfl) ?_
  refine Go_st rfl rfl ?_
  refine Go_st rfl rfl ?_
  refine Go_st rfl rfl ?_
  refine Go_call rfl (rm_in0 _ (d + 2) _ _ _ (pm_no (by decide +kernel))) (chkS rfl rfl rfl rfl) ?_
  refine Go_call rfl (rm_X9_whyNotCode_v_0 c d _) (chkV rfl rfl rfl rfl rfl rfl) ?_
  refine Go_st rfl rfl ?_
  refine Go_st rfl rfl ?_
  refine Go_st rfl rfl ?_
  refine Go_ifF (by decide +kernel) ?_
  refine Go_st rfl rfl ?_
  exact Go_ret rfl ⟨_, rfl, rfl⟩
set_option maxRecDepth 20000 in
set_option maxHeartbeats 4000000 in
theorem rx_X8_regain_v_v (d : Nat) (a1 : Int32) (a2 : Int32) : pm_Rt pm_P (d + 3) 80 (hp0) [.ref 0, .int a1, .int a2] (hp0) (some (.int (-2))) := by
  refine Rt_of aiX8_regain (Nat.le_of_ble_eq_true rfl) ?_
  refine Go_st rfl rfl ?_
  refine Go_st rfl rfl ?_
  refine Go_st rfl rfl ?_
  refine Go_st rfl rfl ?_
  refine Go_call rfl (rx_X8_isTreeCar (d + 1) _) (chkV rfl rfl rfl rfl rfl rfl) ?_
  refine Go_call rfl (rx_X8_readCode_v_0 d _) (chkV rfl rfl rfl rfl rfl rfl) ?_
  refine Go_st rfl rfl ?_
  refine Go_st rfl rfl ?_
  refine Go_st rfl rfl ?_
  refine Go_ifF (by decide +kernel) ?_
  refine Go_st rfl rfl ?_
  exact Go_ret rfl ⟨_, rfl, rfl⟩
set_option maxRecDepth 20000 in
set_option maxHeartbeats 4000000 in
theorem rm_X9_regain_v_v (c : Nat → pm_E) (d : Nat) (a1 : Int32) (a2 : Int32) : pm_Rt pm_P (d + 4) 190 (hpm c) [.ref 77, .int a1, .int a2] (hpm c) (some (.int (-2))) := by
  refine Rt_of aiX9_regain (Nat.le_of_ble_eq_true rfl) ?_
  refine Go_st rfl rfl ?_
  refine Go_st rfl rfl ?_
  refine Go_sm rfl rfl (sm_f rfl) ?_
  refine Go_st rfl rfl ?_
  refine Go_st rfl rfl ?_
  refine Go_st rfl rfl ?_
  refine Go_st rfl rfl ?_
  refine Go_st rfl rfl ?_
  refine Go_st rfl rfl ?_
  refine Go_call rfl (rm_X9_places c (d + 2)) (chkV rfl rfl rfl rfl rfl rfl) ?_
  refine Go_st rfl rfl ?_
  refine Go_st rfl rfl ?_
  refine Go_st rfl rfl ?_
  refine Go_call rfl (rm_in0 _ (d + 2) _ _ _ (pm_no (by decide +kernel))) (chkS rfl rfl rfl rfl) ?_
  refine Go_call rfl (rm_X9_whyNotCode_v_0 c d _) (chkV rfl rfl rfl rfl rfl rfl) ?_
  refine Go_st rfl rfl ?_
  refine Go_st rfl rfl ?_
  refine Go_st rfl rfl ?_
  refine Go_ifF (by decide +kernel) ?_
  refine Go_st rfl rfl ?_
  exact Go_ret rfl ⟨_, rfl, rfl⟩
set_option maxRecDepth 20000 in
set_option maxHeartbeats 4000000 in
theorem rx_X8_upset_v (d : Nat) (a1 : Int32) : pm_Rt pm_P (d + 3) 105 (hp0) [.ref 0, .int a1] (hp0) (some (.int (-2))) := by
  refine Rt_of aiX8_upset (Nat.le_of_ble_eq_true rfl) ?_
  refine Go_st rfl rfl ?_
  refine Go_st rfl rfl ?_
  refine Go_st rfl rfl ?_
  refine Go_call rfl (rx_X8_hasStreet (d + 1)) (chkV rfl rfl rfl rfl rfl rfl) ?_
  refine Go_call rfl (rx_X8_readCode_v_0 d _) (chkV rfl rfl rfl rfl rfl rfl) ?_
  refine Go_st rfl rfl ?_
  refine Go_st rfl rfl ?_
  refine Go_st rfl rfl ?_
  refine Go_ifF (by decide +kernel) ?_
  refine Go_st rfl rfl ?_
  refine Go_st rfl rfl ?_
  exact Go_ret rfl ⟨_, rfl, rfl⟩
set_option maxRecDepth 20000 in
set_option maxHeartbeats 4000000 in
theorem rm_X9_whyNotCode_v_1 (c : Nat → pm_E) (d : Nat) (a1 : Int32) : pm_Rt pm_P (d + 3) 215 (hpm c) [.ref 77, .int a1, .int 1] (hpm c) (some (.int (-2))) := by
  refine Rt_of aiX9_whyNotCode (Nat.le_of_ble_eq_true rfl) ?_
  refine Go_st rfl rfl ?_
  obtain ⟨rr, hrr, hcc⟩ := rm_isSlot (hpm c) d a1
  rcases hrr with rfl | rfl
  · refine Go_call rfl hcc (chkS rfl rfl rfl rfl) ?_
    refine Go_st rfl rfl ?_
    refine Go_ifT (by decide +kernel) ?_
    refine Go_st rfl rfl ?_
    exact Go_ret rfl ⟨_, rfl, rfl⟩
  · refine Go_call rfl hcc (chkS rfl rfl rfl rfl) ?_
    refine Go_st rfl rfl ?_
    refine Go_ifF (by decide +kernel) ?_
    refine Go_st rfl rfl ?_
    refine Go_call rfl (rm_X9_isStreet c (d + 1)) (chkV rfl rfl rfl rfl rfl rfl) ?_
    refine Go_st rfl rfl ?_
    refine Go_ifT (by decide +kernel) ?_
    refine Go_st rfl rfl ?_
    exact Go_ret rfl ⟨_, rfl, rfl⟩
set_option maxRecDepth 20000 in
set_option maxHeartbeats 4000000 in
theorem rm_X9_upset_v (c : Nat → pm_E) (d : Nat) (a1 : Int32) : pm_Rt pm_P (d + 4) 211 (hpm c) [.ref 77, .int a1] (hpm c) (some (.int (-2))) := by
  refine Rt_of aiX9_upset (Nat.le_of_ble_eq_true rfl) ?_
  refine Go_st rfl rfl ?_
  refine Go_st rfl rfl ?_
  refine Go_sm rfl rfl (sm_f rfl) ?_
  refine Go_st rfl rfl ?_
  refine Go_st rfl rfl ?_
  refine Go_st rfl rfl ?_
  refine Go_call rfl (rm_X9_whyNotCode_v_1 c d _) (chkV rfl rfl rfl rfl rfl rfl) ?_
  refine Go_st rfl rfl ?_
  refine Go_st rfl rfl ?_
  refine Go_st rfl rfl ?_
  refine Go_ifF (by decide +kernel) ?_
  refine Go_st rfl rfl ?_
  exact Go_ret rfl ⟨_, rfl, rfl⟩
set_option maxRecDepth 20000 in
set_option maxHeartbeats 4000000 in
theorem rx_X8_isTallied_v (d : Nat) (a1 : Int32) : pm_Rt pm_P (d + 2) 54 (hp0) [.ref 0, .int a1] (hp0) (some (.int 0)) := by
  refine Rt_of aiX8_isTallied (Nat.le_of_ble_eq_true rfl) ?_
  refine Go_st rfl rfl ?_
  refine Go_call rfl (rx_X8_hasStreet d) (chkV rfl rfl rfl rfl rfl rfl) ?_
  refine Go_st rfl rfl ?_
  refine Go_ifT (by decide +kernel) ?_
  refine Go_st rfl rfl ?_
  exact Go_ret rfl ⟨_, rfl, by decide, rfl⟩
set_option maxRecDepth 20000 in
set_option maxHeartbeats 4000000 in
theorem rx_X8_rows_v (d : Nat) (a1 : Int32) : pm_Rt pm_P (d + 3) 87 (hp0) [.ref 0, .int a1] (hp0) (some (.int (-2))) := by
  refine Rt_of aiX8_rows (Nat.le_of_ble_eq_true rfl) ?_
  refine Go_st rfl rfl ?_
  refine Go_st rfl rfl ?_
  refine Go_call rfl (rx_X8_isTallied_v d _) (chkV rfl rfl rfl rfl rfl rfl) ?_
  refine Go_st rfl rfl ?_
  refine Go_ifT (by decide +kernel) ?_
  refine Go_st rfl rfl ?_
  exact Go_ret rfl ⟨_, rfl, rfl⟩
set_option maxRecDepth 20000 in
set_option maxHeartbeats 4000000 in
theorem rm_X9_isSmall_v (c : Nat → pm_E) (d : Nat) (a1 : Int32) : pm_Rt pm_P (d + 2) 164 (hpm c) [.ref 77, .int a1] (hpm c) (some (.int 0)) := by
  refine Rt_of aiX9_isSmall (Nat.le_of_ble_eq_true rfl) ?_
  refine Go_st rfl rfl ?_
  refine Go_call rfl (rm_X9_isStreet c d) (chkV rfl rfl rfl rfl rfl rfl) ?_
  refine Go_st rfl rfl ?_
  refine Go_ifT (by decide +kernel) ?_
  refine Go_st rfl rfl ?_
  exact Go_ret rfl ⟨_, rfl, by decide, rfl⟩
set_option maxRecDepth 20000 in
set_option maxHeartbeats 4000000 in
theorem rm_X9_rows_v (c : Nat → pm_E) (d : Nat) (a1 : Int32) : pm_Rt pm_P (d + 3) 196 (hpm c) [.ref 77, .int a1] (hpm c) (some (.int (-2))) := by
  refine Rt_of aiX9_rows (Nat.le_of_ble_eq_true rfl) ?_
  refine Go_st rfl rfl ?_
  refine Go_st rfl rfl ?_
  refine Go_sm rfl rfl (sm_f rfl) ?_
  refine Go_st rfl rfl ?_
  refine Go_st rfl rfl ?_
  refine Go_call rfl (rm_X9_isSmall_v c d _) (chkV rfl rfl rfl rfl rfl rfl) ?_
  refine Go_st rfl rfl ?_
  refine Go_ifT (by decide +kernel) ?_
  refine Go_st rfl rfl ?_
  exact Go_ret rfl ⟨_, rfl, rfl⟩
set_option maxRecDepth 20000 in
set_option maxHeartbeats 4000000 in
theorem rx_X8_tally_v_v (d : Nat) (a1 : Int32) (a2 : Int32) : pm_Rt pm_P (d + 3) 100 (hp0) [.ref 0, .int a1, .int a2] (hp0) (some (.int (-2))) := by
  refine Rt_of aiX8_tally (Nat.le_of_ble_eq_true rfl) ?_
  refine Go_st rfl rfl ?_
  refine Go_st rfl rfl ?_
  refine Go_call rfl (rx_X8_isTallied_v d _) (chkV rfl rfl rfl rfl rfl rfl) ?_
  refine Go_st rfl rfl ?_
  refine Go_ifT (by decide +kernel) ?_
  refine Go_st rfl rfl ?_
  exact Go_ret rfl ⟨_, rfl, rfl⟩
set_option maxRecDepth 20000 in
set_option maxHeartbeats 4000000 in
theorem rx_X8_moved_v_v (d : Nat) (a1 : Int32) (a2 : Int32) : pm_Rt pm_P (d + 4) 71 (hp0) [.ref 0, .int a1, .int a2] (hp0) (some (.int (-2))) := by
  refine Rt_of aiX8_moved (Nat.le_of_ble_eq_true rfl) ?_
  refine Go_st rfl rfl ?_
  refine Go_st rfl rfl ?_
  refine Go_st rfl rfl ?_
  refine Go_call rfl (rx_X8_tally_v_v d _ _) (chkV rfl rfl rfl rfl rfl rfl) ?_
  exact Go_ret rfl ⟨_, rfl, rfl⟩
set_option maxRecDepth 20000 in
set_option maxHeartbeats 4000000 in
theorem rm_X9_moved_v_v (c : Nat → pm_E) (d : Nat) (a1 : Int32) (a2 : Int32) : pm_Rt pm_P (d + 3) 181 (hpm c) [.ref 77, .int a1, .int a2] (hpm c) (some (.int (-2))) := by
  refine Rt_of aiX9_moved (Nat.le_of_ble_eq_true rfl) ?_
  refine Go_st rfl rfl ?_
  refine Go_st rfl rfl ?_
  refine Go_sm rfl rfl (sm_f rfl) ?_
  refine Go_st rfl rfl ?_
  refine Go_st rfl rfl ?_
  refine Go_call rfl (rm_X9_isSmall_v c d _) (chkV rfl rfl rfl rfl rfl rfl) ?_
  refine Go_st rfl rfl ?_
  refine Go_ifT (by decide +kernel) ?_
  refine Go_st rfl rfl ?_
  exact Go_ret rfl ⟨_, rfl, rfl⟩
set_option maxRecDepth 20000 in
set_option maxHeartbeats 4000000 in
theorem rx_X8_trees_v_v (d : Nat) (a1 : Int32) (a2 : Int32) : pm_Rt pm_P (d + 4) 102 (hp0) [.ref 0, .int a1, .int a2] (hp0) (some (.int (-2))) := by
  refine Rt_of aiX8_trees (Nat.le_of_ble_eq_true rfl) ?_
  refine Go_st rfl rfl ?_
  refine Go_st rfl rfl ?_
  refine Go_st rfl rfl ?_
  refine Go_call rfl (rx_X8_tally_v_v d _ _) (chkV rfl rfl rfl rfl rfl rfl) ?_
  exact Go_ret rfl ⟨_, rfl, rfl⟩
set_option maxRecDepth 20000 in
set_option maxHeartbeats 4000000 in
theorem rm_X9_trees_v_v (c : Nat → pm_E) (d : Nat) (a1 : Int32) (a2 : Int32) : pm_Rt pm_P (d + 3) 208 (hpm c) [.ref 77, .int a1, .int a2] (hpm c) (some (.int (-2))) := by
  refine Rt_of aiX9_trees (Nat.le_of_ble_eq_true rfl) ?_
  refine Go_st rfl rfl ?_
  refine Go_st rfl rfl ?_
  refine Go_sm rfl rfl (sm_f rfl) ?_
  refine Go_st rfl rfl ?_
  refine Go_st rfl rfl ?_
  refine Go_call rfl (rm_X9_isSmall_v c d _) (chkV rfl rfl rfl rfl rfl rfl) ?_
  refine Go_st rfl rfl ?_
  refine Go_ifT (by decide +kernel) ?_
  refine Go_st rfl rfl ?_
  exact Go_ret rfl ⟨_, rfl, rfl⟩
set_option maxRecDepth 20000 in
set_option maxHeartbeats 4000000 in
theorem rx_X8_ends_v_v (d : Nat) (a1 : Int32) (a2 : Int32) : pm_Rt pm_P (d + 3) 34 (hp0) [.ref 0, .int a1, .int a2] (hp0) (some (.int (-2))) := by
  refine Rt_of aiX8_ends (Nat.le_of_ble_eq_true rfl) ?_
  refine Go_st rfl rfl ?_
  refine Go_st rfl rfl ?_
  refine Go_call rfl (rx_X8_isTallied_v d _) (chkV rfl rfl rfl rfl rfl rfl) ?_
  refine Go_st rfl rfl ?_
  refine Go_ifT (by decide +kernel) ?_
  refine Go_st rfl rfl ?_
  exact Go_ret rfl ⟨_, rfl, rfl⟩
set_option maxRecDepth 20000 in
set_option maxHeartbeats 4000000 in
theorem rm_X9_ends_v_v (c : Nat → pm_E) (d : Nat) (a1 : Int32) (a2 : Int32) : pm_Rt pm_P (d + 3) 138 (hpm c) [.ref 77, .int a1, .int a2] (hpm c) (some (.int (-2))) := by
  refine Rt_of aiX9_ends (Nat.le_of_ble_eq_true rfl) ?_
  refine Go_st rfl rfl ?_
  refine Go_st rfl rfl ?_
  refine Go_sm rfl rfl (sm_f rfl) ?_
  refine Go_st rfl rfl ?_
  refine Go_st rfl rfl ?_
  refine Go_call rfl (rm_X9_isSmall_v c d _) (chkV rfl rfl rfl rfl rfl rfl) ?_
  refine Go_st rfl rfl ?_
  refine Go_ifT (by decide +kernel) ?_
  refine Go_st rfl rfl ?_
  exact Go_ret rfl ⟨_, rfl, rfl⟩
set_option maxRecDepth 20000 in
set_option maxHeartbeats 4000000 in
theorem rm_X9_isJoin_v (c : Nat → pm_E) (d : Nat) (a1 : Int32) : pm_Rt pm_P (d + 2) 157 (hpm c) [.ref 77, .int a1] (hpm c) (some (.int 0)) := by
  refine Rt_of aiX9_isJoin (Nat.le_of_ble_eq_true rfl) ?_
  refine Go_st rfl rfl ?_
  refine Go_st rfl rfl ?_
  refine Go_st rfl rfl ?_
  refine Go_st rfl rfl ?_
  refine Go_st rfl rfl ?_
  refine Go_st rfl rfl ?_
  refine Go_iald (v := 0) rfl rfl (by decide +kernel) (by decide +kernel) ?_
  refine Go_st rfl rfl ?_
  refine Go_st rfl rfl ?_
  refine Go_st rfl rfl ?_
  refine Go_call rfl (rm_in0 _ d _ _ _ (pm_no (by decide +kernel))) (chkS rfl rfl rfl rfl) ?_
  exact Go_ret rfl ⟨_, rfl, by decide, rfl⟩
