/-! runs on a fresh object (written by gen_auto.py) -/
set_option maxRecDepth 20000 in
set_option maxHeartbeats 4000000 in
theorem rm_X9_copyRow_16_0_1 (c : Nat → pm_E) (d : Nat)  : pm_Rt pm_P (d + 1) 132 (hpm c) [.ref 85, .int 16, .int 0, .int 1] (hpm c) none := by
  refine Rt_of aiX9_copyRow (Nat.le_of_ble_eq_true rfl) ?_
  refine Go_st rfl rfl ?_
  refine Go_st rfl rfl ?_
  refine Go_st rfl rfl ?_
  refine Go_st rfl rfl ?_
  refine Go_st rfl rfl ?_
  refine Go_ifF (by decide +kernel) ?_
  refine Go_st rfl rfl ?_
  refine Go_st rfl rfl ?_
  refine Go_st rfl rfl ?_
  refine Go_bin (v := 16) rfl (by decide +kernel) ?_
  refine Go_st rfl rfl ?_
  refine Go_bin (v := 16) rfl (by decide +kernel) ?_
  refine Go_st rfl rfl ?_
  refine Go_st rfl rfl ?_
  refine Go_st rfl rfl ?_
  refine Go_bin (v := 0) rfl (by decide +kernel) ?_
  refine Go_st rfl rfl ?_
  refine Go_bin (v := 0) rfl (by decide +kernel) ?_
  refine Go_iald (v := 0) rfl rfl (by decide +kernel) (by decide +kernel) ?_
  refine Go_iast0 rfl rfl (by decide +kernel) ?_
  refine Go_inc (v := 1) rfl rfl (by decide +kernel) ?_
  refine Go_st rfl rfl ?_
  refine Go_st rfl rfl ?_
  refine Go_st rfl rfl ?_
  refine Go_st rfl rfl ?_
  refine Go_ifF (by decide +kernel) ?_
  refine Go_st rfl rfl ?_
  refine Go_st rfl rfl ?_
  refine Go_st rfl rfl ?_
  refine Go_bin (v := 16) rfl (by decide +kernel) ?_
  refine Go_st rfl rfl ?_
  refine Go_bin (v := 17) rfl (by decide +kernel) ?_
  refine Go_st rfl rfl ?_
  refine Go_st rfl rfl ?_
  refine Go_st rfl rfl ?_
  refine Go_bin (v := 0) rfl (by decide +kernel) ?_
  refine Go_st rfl rfl ?_
  refine Go_bin (v := 1) rfl (by decide +kernel) ?_
  refine Go_iald (v := 0) rfl rfl (by decide +kernel) (by decide +kernel) ?_
  refine Go_iast0 rfl rfl (by decide +kernel) ?_
  refine Go_inc (v := 2) rfl rfl (by decide +kernel) ?_
  refine Go_st rfl rfl ?_
  refine Go_st rfl rfl ?_
  refine Go_st rfl rfl ?_
  refine Go_st rfl rfl ?_
  refine Go_ifF (by decide +kernel) ?_
  refine Go_st rfl rfl ?_
  refine Go_st rfl rfl ?_
  refine Go_st rfl rfl ?_
  refine Go_bin (v := 16) rfl (by decide +kernel) ?_
  refine Go_st rfl rfl ?_
  refine Go_bin (v := 18) rfl (by decide +kernel) ?_
  refine Go_st rfl rfl ?_
  refine Go_st rfl rfl ?_
  refine Go_st rfl rfl ?_
  refine Go_bin (v := 0) rfl (by decide +kernel) ?_
  refine Go_st rfl rfl ?_
  refine Go_bin (v := 2) rfl (by decide +kernel) ?_
  refine Go_iald (v := 0) rfl rfl (by decide +kernel) (by decide +kernel) ?_
  refine Go_iast0 rfl rfl (by decide +kernel) ?_
  refine Go_inc (v := 3) rfl rfl (by decide +kernel) ?_
  refine Go_st rfl rfl ?_
  refine Go_st rfl rfl ?_
  refine Go_st rfl rfl ?_
  refine Go_st rfl rfl ?_
  refine Go_ifF (by decide +kernel) ?_
  refine Go_st rfl rfl ?_
  refine Go_st rfl rfl ?_
  refine Go_st rfl rfl ?_
  refine Go_bin (v := 16) rfl (by decide +kernel) ?_
  refine Go_st rfl rfl ?_
  refine Go_bin (v := 19) rfl (by decide +kernel) ?_
  refine Go_st rfl rfl ?_
  refine Go_st rfl rfl ?_
  refine Go_st rfl rfl ?_
  refine Go_bin (v := 0) rfl (by decide +kernel) ?_
  refine Go_st rfl rfl ?_
  refine Go_bin (v := 3) rfl (by decide +kernel) ?_
  refine Go_iald (v := 0) rfl rfl (by decide +kernel) (by decide +kernel) ?_
  refine Go_iast0 rfl rfl (by decide +kernel) ?_
  refine Go_inc (v := 4) rfl rfl (by decide +kernel) ?_
  refine Go_st rfl rfl ?_
  refine Go_st rfl rfl ?_
  refine Go_st rfl rfl ?_
  refine Go_st rfl rfl ?_
  refine Go_ifF (by decide +kernel) ?_
  refine Go_st rfl rfl ?_
  refine Go_st rfl rfl ?_
  refine Go_st rfl rfl ?_
  refine Go_bin (v := 16) rfl (by decide +kernel) ?_
  refine Go_st rfl rfl ?_
  refine Go_bin (v := 20) rfl (by decide +kernel) ?_
  refine Go_st rfl rfl ?_
  refine Go_st rfl rfl ?_
  refine Go_st rfl rfl ?_
  refine Go_bin (v := 0) rfl (by decide +kernel) ?_
  refine Go_st rfl rfl ?_
  refine Go_bin (v := 4) rfl (by decide +kernel) ?_
  refine Go_iald (v := 0) rfl rfl (by decide +kernel) (by decide +kernel) ?_
  refine Go_iast0 rfl rfl (by decide +kernel) ?_
  refine Go_inc (v := 5) rfl rfl (by decide +kernel) ?_
  refine Go_st rfl rfl ?_
  refine Go_st rfl rfl ?_
  refine Go_st rfl rfl ?_
  refine Go_st rfl rfl ?_
  refine Go_ifF (by decide +kernel) ?_
  refine Go_st rfl rfl ?_
  refine Go_st rfl rfl ?_
  refine Go_st rfl rfl ?_
  refine Go_bin (v := 16) rfl (by decide +kernel) ?_
  refine Go_st rfl rfl ?_
  refine Go_bin (v := 21) rfl (by decide +kernel) ?_
  refine Go_st rfl rfl ?_
  refine Go_st rfl rfl ?_
  refine Go_st rfl rfl ?_
  refine Go_bin (v := 0) rfl (by decide +kernel) ?_
  refine Go_st rfl rfl ?_
  refine Go_bin (v := 5) rfl (by decide +kernel) ?_
  refine Go_iald (v := 0) rfl rfl (by decide +kernel) (by decide +kernel) ?_
  refine Go_iast0 rfl rfl (by decide +kernel) ?_
  refine Go_inc (v := 6) rfl rfl (by decide +kernel) ?_
  refine Go_st rfl rfl ?_
  refine Go_st rfl rfl ?_
  refine Go_st rfl rfl ?_
  refine Go_st rfl rfl ?_
  refine Go_ifF (by decide +kernel) ?_
  refine Go_st rfl rfl ?_
  refine Go_st rfl rfl ?_
  refine Go_st rfl rfl ?_
  refine Go_bin (v := 16) rfl (by decide +kernel) ?_
  refine Go_st rfl rfl ?_
  refine Go_bin (v := 22) rfl (by decide +kernel) ?_
  refine Go_st rfl rfl ?_
  refine Go_st rfl rfl ?_
  refine Go_st rfl rfl ?_
  refine Go_bin (v := 0) rfl (by decide +kernel) ?_
  refine Go_st rfl rfl ?_
  refine Go_bin (v := 6) rfl (by decide +kernel) ?_
  refine Go_iald (v := 0) rfl rfl (by decide +kernel) (by decide +kernel) ?_
  refine Go_iast0 rfl rfl (by decide +kernel) ?_
  refine Go_inc (v := 7) rfl rfl (by decide +kernel) ?_
  refine Go_st rfl rfl ?_
  refine Go_st rfl rfl ?_
  refine Go_st rfl rfl ?_
  refine Go_st rfl rfl ?_
  refine Go_ifF (by decide +kernel) ?_
  refine Go_st rfl rfl ?_
  refine Go_st rfl rfl ?_
  refine Go_st rfl rfl ?_
  refine Go_bin (v := 16) rfl (by decide +kernel) ?_
  refine Go_st rfl rfl ?_
  refine Go_bin (v := 23) rfl (by decide +kernel) ?_
  refine Go_st rfl rfl ?_
  refine Go_st rfl rfl ?_
  refine Go_st rfl rfl ?_
  refine Go_bin (v := 0) rfl (by decide +kernel) ?_
  refine Go_st rfl rfl ?_
  refine Go_bin (v := 7) rfl (by decide +kernel) ?_
  refine Go_iald (v := 0) rfl rfl (by decide +kernel) (by decide +kernel) ?_
  refine Go_iast0 rfl rfl (by decide +kernel) ?_
  refine Go_inc (v := 8) rfl rfl (by decide +kernel) ?_
  refine Go_st rfl rfl ?_
  refine Go_st rfl rfl ?_
  refine Go_st rfl rfl ?_
  refine Go_st rfl rfl ?_
  refine Go_ifF (by decide +kernel) ?_
  refine Go_st rfl rfl ?_
  refine Go_st rfl rfl ?_
  refine Go_st rfl rfl ?_
  refine Go_bin (v := 16) rfl (by decide +kernel) ?_
  refine Go_st rfl rfl ?_
  refine Go_bin (v := 24) rfl (by decide +kernel) ?_
  refine Go_st rfl rfl ?_
  refine Go_st rfl rfl ?_
  refine Go_st rfl rfl ?_
  refine Go_bin (v := 0) rfl (by decide +kernel) ?_
  refine Go_st rfl rfl ?_
  refine Go_bin (v := 8) rfl (by decide +kernel) ?_
  refine Go_iald (v := 0) rfl rfl (by decide +kernel) (by decide +kernel) ?_
  refine Go_iast0 rfl rfl (by decide +kernel) ?_
  refine Go_inc (v := 9) rfl rfl (by decide +kernel) ?_
  refine Go_st rfl rfl ?_
  refine Go_st rfl rfl ?_
  refine Go_st rfl rfl ?_
  refine Go_st rfl rfl ?_
  refine Go_ifF (by decide +kernel) ?_
  refine Go_st rfl rfl ?_
  refine Go_st rfl rfl ?_
  refine Go_st rfl rfl ?_
  refine Go_bin (v := 16) rfl (by decide +kernel) ?_
  refine Go_st rfl rfl ?_
  refine Go_bin (v := 25) rfl (by decide +kernel) ?_
  refine Go_st rfl rfl ?_
  refine Go_st rfl rfl ?_
  refine Go_st rfl rfl ?_
  refine Go_bin (v := 0) rfl (by decide +kernel) ?_
  refine Go_st rfl rfl ?_
  refine Go_bin (v := 9) rfl (by decide +kernel) ?_
  refine Go_iald (v := 0) rfl rfl (by decide +kernel) (by decide +kernel) ?_
  refine Go_iast0 rfl rfl (by decide +kernel) ?_
  refine Go_inc (v := 10) rfl rfl (by decide +kernel) ?_
  refine Go_st rfl rfl ?_
  refine Go_st rfl rfl ?_
  refine Go_st rfl rfl ?_
  refine Go_st rfl rfl ?_
  refine Go_ifF (by decide +kernel) ?_
  refine Go_st rfl rfl ?_
  refine Go_st rfl rfl ?_
  refine Go_st rfl rfl ?_
  refine Go_bin (v := 16) rfl (by decide +kernel) ?_
  refine Go_st rfl rfl ?_
  refine Go_bin (v := 26) rfl (by decide +kernel) ?_
  refine Go_st rfl rfl ?_
  refine Go_st rfl rfl ?_
  refine Go_st rfl rfl ?_
  refine Go_bin (v := 0) rfl (by decide +kernel) ?_
  refine Go_st rfl rfl ?_
  refine Go_bin (v := 10) rfl (by decide +kernel) ?_
  refine Go_iald (v := 0) rfl rfl (by decide +kernel) (by decide +kernel) ?_
  refine Go_iast0 rfl rfl (by decide +kernel) ?_
  refine Go_inc (v := 11) rfl rfl (by decide +kernel) ?_
  refine Go_st rfl rfl ?_
  refine Go_st rfl rfl ?_
  refine Go_st rfl rfl ?_
  refine Go_st rfl rfl ?_
  refine Go_ifF (by decide +kernel) ?_
  refine Go_st rfl rfl ?_
  refine Go_st rfl rfl ?_
  refine Go_st rfl rfl ?_
  refine Go_bin (v := 16) rfl (by decide +kernel) ?_
  refine Go_st rfl rfl ?_
  refine Go_bin (v := 27) rfl (by decide +kernel) ?_
  refine Go_st rfl rfl ?_
  refine Go_st rfl rfl ?_
  refine Go_st rfl rfl ?_
  refine Go_bin (v := 0) rfl (by decide +kernel) ?_
  refine Go_st rfl rfl ?_
  refine Go_bin (v := 11) rfl (by decide +kernel) ?_
  refine Go_iald (v := 0) rfl rfl (by decide +kernel) (by decide +kernel) ?_
  refine Go_iast0 rfl rfl (by decide +kernel) ?_
  refine Go_inc (v := 12) rfl rfl (by decide +kernel) ?_
  refine Go_st rfl rfl ?_
  refine Go_st rfl rfl ?_
  refine Go_st rfl rfl ?_
  refine Go_st rfl rfl ?_
  refine Go_ifF (by decide +kernel) ?_
  refine Go_st rfl rfl ?_
  refine Go_st rfl rfl ?_
  refine Go_st rfl rfl ?_
  refine Go_bin (v := 16) rfl (by decide +kernel) ?_
  refine Go_st rfl rfl ?_
  refine Go_bin (v := 28) rfl (by decide +kernel) ?_
  refine Go_st rfl rfl ?_
  refine Go_st rfl rfl ?_
  refine Go_st rfl rfl ?_
  refine Go_bin (v := 0) rfl (by decide +kernel) ?_
  refine Go_st rfl rfl ?_
  refine Go_bin (v := 12) rfl (by decide +kernel) ?_
  refine Go_iald (v := 0) rfl rfl (by decide +kernel) (by decide +kernel) ?_
  refine Go_iast0 rfl rfl (by decide +kernel) ?_
  refine Go_inc (v := 13) rfl rfl (by decide +kernel) ?_
  refine Go_st rfl rfl ?_
  refine Go_st rfl rfl ?_
  refine Go_st rfl rfl ?_
  refine Go_st rfl rfl ?_
  refine Go_ifF (by decide +kernel) ?_
  refine Go_st rfl rfl ?_
  refine Go_st rfl rfl ?_
  refine Go_st rfl rfl ?_
  refine Go_bin (v := 16) rfl (by decide +kernel) ?_
  refine Go_st rfl rfl ?_
  refine Go_bin (v := 29) rfl (by decide +kernel) ?_
  refine Go_st rfl rfl ?_
  refine Go_st rfl rfl ?_
  refine Go_st rfl rfl ?_
  refine Go_bin (v := 0) rfl (by decide +kernel) ?_
  refine Go_st rfl rfl ?_
  refine Go_bin (v := 13) rfl (by decide +kernel) ?_
  refine Go_iald (v := 0) rfl rfl (by decide +kernel) (by decide +kernel) ?_
  refine Go_iast0 rfl rfl (by decide +kernel) ?_
  refine Go_inc (v := 14) rfl rfl (by decide +kernel) ?_
  refine Go_st rfl rfl ?_
  refine Go_st rfl rfl ?_
  refine Go_st rfl rfl ?_
  refine Go_st rfl rfl ?_
  refine Go_ifF (by decide +kernel) ?_
  refine Go_st rfl rfl ?_
  refine Go_st rfl rfl ?_
  refine Go_st rfl rfl ?_
  refine Go_bin (v := 16) rfl (by decide +kernel) ?_
  refine Go_st rfl rfl ?_
  refine Go_bin (v := 30) rfl (by decide +kernel) ?_
  refine Go_st rfl rfl ?_
  refine Go_st rfl rfl ?_
  refine Go_st rfl rfl ?_
  refine Go_bin (v := 0) rfl (by decide +kernel) ?_
  refine Go_st rfl rfl ?_
  refine Go_bin (v := 14) rfl (by decide +kernel) ?_
  refine Go_iald (v := 0) rfl rfl (by decide +kernel) (by decide +kernel) ?_
  refine Go_iast0 rfl rfl (by decide +kernel) ?_
  refine Go_inc (v := 15) rfl rfl (by decide +kernel) ?_
  refine Go_st rfl rfl ?_
  refine Go_st rfl rfl ?_
  refine Go_st rfl rfl ?_
  refine Go_st rfl rfl ?_
  refine Go_ifF (by decide +kernel) ?_
  refine Go_st rfl rfl ?_
  refine Go_st rfl rfl ?_
  refine Go_st rfl rfl ?_
  refine Go_bin (v := 16) rfl (by decide +kernel) ?_
  refine Go_st rfl rfl ?_
  refine Go_bin (v := 31) rfl (by decide +kernel) ?_
  refine Go_st rfl rfl ?_
  refine Go_st rfl rfl ?_
  refine Go_st rfl rfl ?_
  refine Go_bin (v := 0) rfl (by decide +kernel) ?_
  refine Go_st rfl rfl ?_
  refine Go_bin (v := 15) rfl (by decide +kernel) ?_
  refine Go_iald (v := 0) rfl rfl (by decide +kernel) (by decide +kernel) ?_
  refine Go_iast0 rfl rfl (by decide +kernel) ?_
  refine Go_inc (v := 16) rfl rfl (by decide +kernel) ?_
  refine Go_st rfl rfl ?_
  refine Go_st rfl rfl ?_
  refine Go_st rfl rfl ?_
  refine Go_st rfl rfl ?_
  refine Go_ifT (by decide +kernel) ?_
  exact Go_ret rfl ⟨rfl, rfl⟩
set_option maxRecDepth 20000 in
set_option maxHeartbeats 4000000 in
theorem rm_X9_copyRow_16_0_1 (c : Nat → pm_E) (d : Nat)  : pm_Rt pm_P (d + 1) 132 (hpm c) [.ref 86, .int 16, .int 0, .int 1] (hpm c) none := by
  refine Rt_of aiX9_copyRow (Nat.le_of_ble_eq_true rfl) ?_
  refine Go_st rfl rfl ?_
  refine Go_st rfl rfl ?_
  refine Go_st rfl rfl ?_
  refine Go_st rfl rfl ?_
  refine Go_st rfl rfl ?_
  refine Go_ifF (by decide +kernel) ?_
  refine Go_st rfl rfl ?_
  refine Go_st rfl rfl ?_
  refine Go_st rfl rfl ?_
  refine Go_bin (v := 16) rfl (by decide +kernel) ?_
  refine Go_st rfl rfl ?_
  refine Go_bin (v := 16) rfl (by decide +kernel) ?_
  refine Go_st rfl rfl ?_
  refine Go_st rfl rfl ?_
  refine Go_st rfl rfl ?_
  refine Go_bin (v := 0) rfl (by decide +kernel) ?_
  refine Go_st rfl rfl ?_
  refine Go_bin (v := 0) rfl (by decide +kernel) ?_
  refine Go_iald (v := 0) rfl rfl (by decide +kernel) (by decide +kernel) ?_
  refine Go_iast0 rfl rfl (by decide +kernel) ?_
  refine Go_inc (v := 1) rfl rfl (by decide +kernel) ?_
  refine Go_st rfl rfl ?_
  refine Go_st rfl rfl ?_
  refine Go_st rfl rfl ?_
  refine Go_st rfl rfl ?_
  refine Go_ifF (by decide +kernel) ?_
  refine Go_st rfl rfl ?_
  refine Go_st rfl rfl ?_
  refine Go_st rfl rfl ?_
  refine Go_bin (v := 16) rfl (by decide +kernel) ?_
  refine Go_st rfl rfl ?_
  refine Go_bin (v := 17) rfl (by decide +kernel) ?_
  refine Go_st rfl rfl ?_
  refine Go_st rfl rfl ?_
  refine Go_st rfl rfl ?_
  refine Go_bin (v := 0) rfl (by decide +kernel) ?_
  refine Go_st rfl rfl ?_
  refine Go_bin (v := 1) rfl (by decide +kernel) ?_
  refine Go_iald (v := 0) rfl rfl (by decide +kernel) (by decide +kernel) ?_
  refine Go_iast0 rfl rfl (by decide +kernel) ?_
  refine Go_inc (v := 2) rfl rfl (by decide +kernel) ?_
  refine Go_st rfl rfl ?_
  refine Go_st rfl rfl ?_
  refine Go_st rfl rfl ?_
  refine Go_st rfl rfl ?_
  refine Go_ifF (by decide +kernel) ?_
  refine Go_st rfl rfl ?_
  refine Go_st rfl rfl ?_
  refine Go_st rfl rfl ?_
  refine Go_bin (v := 16) rfl (by decide +kernel) ?_
  refine Go_st rfl rfl ?_
  refine Go_bin (v := 18) rfl (by decide +kernel) ?_
  refine Go_st rfl rfl ?_
  refine Go_st rfl rfl ?_
  refine Go_st rfl rfl ?_
  refine Go_bin (v := 0) rfl (by decide +kernel) ?_
  refine Go_st rfl rfl ?_
  refine Go_bin (v := 2) rfl (by decide +kernel) ?_
  refine Go_iald (v := 0) rfl rfl (by decide +kernel) (by decide +kernel) ?_
  refine Go_iast0 rfl rfl (by decide +kernel) ?_
  refine Go_inc (v := 3) rfl rfl (by decide +kernel) ?_
  refine Go_st rfl rfl ?_
  refine Go_st rfl rfl ?_
  refine Go_st rfl rfl ?_
  refine Go_st rfl rfl ?_
  refine Go_ifF (by decide +kernel) ?_
  refine Go_st rfl rfl ?_
  refine Go_st rfl rfl ?_
  refine Go_st rfl rfl ?_
  refine Go_bin (v := 16) rfl (by decide +kernel) ?_
  refine Go_st rfl rfl ?_
  refine Go_bin (v := 19) rfl (by decide +kernel) ?_
  refine Go_st rfl rfl ?_
  refine Go_st rfl rfl ?_
  refine Go_st rfl rfl ?_
  refine Go_bin (v := 0) rfl (by decide +kernel) ?_
  refine Go_st rfl rfl ?_
  refine Go_bin (v := 3) rfl (by decide +kernel) ?_
  refine Go_iald (v := 0) rfl rfl (by decide +kernel) (by decide +kernel) ?_
  refine Go_iast0 rfl rfl (by decide +kernel) ?_
  refine Go_inc (v := 4) rfl rfl (by decide +kernel) ?_
  refine Go_st rfl rfl ?_
  refine Go_st rfl rfl ?_
  refine Go_st rfl rfl ?_
  refine Go_st rfl rfl ?_
  refine Go_ifF (by decide +kernel) ?_
  refine Go_st rfl rfl ?_
  refine Go_st rfl rfl ?_
  refine Go_st rfl rfl ?_
  refine Go_bin (v := 16) rfl (by decide +kernel) ?_
  refine Go_st rfl rfl ?_
  refine Go_bin (v := 20) rfl (by decide +kernel) ?_
  refine Go_st rfl rfl ?_
  refine Go_st rfl rfl ?_
  refine Go_st rfl rfl ?_
  refine Go_bin (v := 0) rfl (by decide +kernel) ?_
  refine Go_st rfl rfl ?_
  refine Go_bin (v := 4) rfl (by decide +kernel) ?_
  refine Go_iald (v := 0) rfl rfl (by decide +kernel) (by decide +kernel) ?_
  refine Go_iast0 rfl rfl (by decide +kernel) ?_
  refine Go_inc (v := 5) rfl rfl (by decide +kernel) ?_
  refine Go_st rfl rfl ?_
  refine Go_st rfl rfl ?_
  refine Go_st rfl rfl ?_
  refine Go_st rfl rfl ?_
  refine Go_ifF (by decide +kernel) ?_
  refine Go_st rfl rfl ?_
  refine Go_st rfl rfl ?_
  refine Go_st rfl rfl ?_
  refine Go_bin (v := 16) rfl (by decide +kernel) ?_
  refine Go_st rfl rfl ?_
  refine Go_bin (v := 21) rfl (by decide +kernel) ?_
  refine Go_st rfl rfl ?_
  refine Go_st rfl rfl ?_
  refine Go_st rfl rfl ?_
  refine Go_bin (v := 0) rfl (by decide +kernel) ?_
  refine Go_st rfl rfl ?_
  refine Go_bin (v := 5) rfl (by decide +kernel) ?_
  refine Go_iald (v := 0) rfl rfl (by decide +kernel) (by decide +kernel) ?_
  refine Go_iast0 rfl rfl (by decide +kernel) ?_
  refine Go_inc (v := 6) rfl rfl (by decide +kernel) ?_
  refine Go_st rfl rfl ?_
  refine Go_st rfl rfl ?_
  refine Go_st rfl rfl ?_
  refine Go_st rfl rfl ?_
  refine Go_ifF (by decide +kernel) ?_
  refine Go_st rfl rfl ?_
  refine Go_st rfl rfl ?_
  refine Go_st rfl rfl ?_
  refine Go_bin (v := 16) rfl (by decide +kernel) ?_
  refine Go_st rfl rfl ?_
  refine Go_bin (v := 22) rfl (by decide +kernel) ?_
  refine Go_st rfl rfl ?_
  refine Go_st rfl rfl ?_
  refine Go_st rfl rfl ?_
  refine Go_bin (v := 0) rfl (by decide +kernel) ?_
  refine Go_st rfl rfl ?_
  refine Go_bin (v := 6) rfl (by decide +kernel) ?_
  refine Go_iald (v := 0) rfl rfl (by decide +kernel) (by decide +kernel) ?_
  refine Go_iast0 rfl rfl (by decide +kernel) ?_
  refine Go_inc (v := 7) rfl rfl (by decide +kernel) ?_
  refine Go_st rfl rfl ?_
  refine Go_st rfl rfl ?_
  refine Go_st rfl rfl ?_
  refine Go_st rfl rfl ?_
  refine Go_ifF (by decide +kernel) ?_
  refine Go_st rfl rfl ?_
  refine Go_st rfl rfl ?_
  refine Go_st rfl rfl ?_
  refine Go_bin (v := 16) rfl (by decide +kernel) ?_
  refine Go_st rfl rfl ?_
  refine Go_bin (v := 23) rfl (by decide +kernel) ?_
  refine Go_st rfl rfl ?_
  refine Go_st rfl rfl ?_
  refine Go_st rfl rfl ?_
  refine Go_bin (v := 0) rfl (by decide +kernel) ?_
  refine Go_st rfl rfl ?_
  refine Go_bin (v := 7) rfl (by decide +kernel) ?_
  refine Go_iald (v := 0) rfl rfl (by decide +kernel) (by decide +kernel) ?_
  refine Go_iast0 rfl rfl (by decide +kernel) ?_
  refine Go_inc (v := 8) rfl rfl (by decide +kernel) ?_
  refine Go_st rfl rfl ?_
  refine Go_st rfl rfl ?_
  refine Go_st rfl rfl ?_
  refine Go_st rfl rfl ?_
  refine Go_ifF (by decide +kernel) ?_
  refine Go_st rfl rfl ?_
  refine Go_st rfl rfl ?_
  refine Go_st rfl rfl ?_
  refine Go_bin (v := 16) rfl (by decide +kernel) ?_
  refine Go_st rfl rfl ?_
  refine Go_bin (v := 24) rfl (by decide +kernel) ?_
  refine Go_st rfl rfl ?_
  refine Go_st rfl rfl ?_
  refine Go_st rfl rfl ?_
  refine Go_bin (v := 0) rfl (by decide +kernel) ?_
  refine Go_st rfl rfl ?_
  refine Go_bin (v := 8) rfl (by decide +kernel) ?_
  refine Go_iald (v := 0) rfl rfl (by decide +kernel) (by decide +kernel) ?_
  refine Go_iast0 rfl rfl (by decide +kernel) ?_
  refine Go_inc (v := 9) rfl rfl (by decide +kernel) ?_
  refine Go_st rfl rfl ?_
  refine Go_st rfl rfl ?_
  refine Go_st rfl rfl ?_
  refine Go_st rfl rfl ?_
  refine Go_ifF (by decide +kernel) ?_
  refine Go_st rfl rfl ?_
  refine Go_st rfl rfl ?_
  refine Go_st rfl rfl ?_
  refine Go_bin (v := 16) rfl (by decide +kernel) ?_
  refine Go_st rfl rfl ?_
  refine Go_bin (v := 25) rfl (by decide +kernel) ?_
  refine Go_st rfl rfl ?_
  refine Go_st rfl rfl ?_
  refine Go_st rfl rfl ?_
  refine Go_bin (v := 0) rfl (by decide +kernel) ?_
  refine Go_st rfl rfl ?_
  refine Go_bin (v := 9) rfl (by decide +kernel) ?_
  refine Go_iald (v := 0) rfl rfl (by decide +kernel) (by decide +kernel) ?_
  refine Go_iast0 rfl rfl (by decide +kernel) ?_
  refine Go_inc (v := 10) rfl rfl (by decide +kernel) ?_
  refine Go_st rfl rfl ?_
  refine Go_st rfl rfl ?_
  refine Go_st rfl rfl ?_
  refine Go_st rfl rfl ?_
  refine Go_ifF (by decide +kernel) ?_
  refine Go_st rfl rfl ?_
  refine Go_st rfl rfl ?_
  refine Go_st rfl rfl ?_
  refine Go_bin (v := 16) rfl (by decide +kernel) ?_
  refine Go_st rfl rfl ?_
  refine Go_bin (v := 26) rfl (by decide +kernel) ?_
  refine Go_st rfl rfl ?_
  refine Go_st rfl rfl ?_
  refine Go_st rfl rfl ?_
  refine Go_bin (v := 0) rfl (by decide +kernel) ?_
  refine Go_st rfl rfl ?_
  refine Go_bin (v := 10) rfl (by decide +kernel) ?_
  refine Go_iald (v := 0) rfl rfl (by decide +kernel) (by decide +kernel) ?_
  refine Go_iast0 rfl rfl (by decide +kernel) ?_
  refine Go_inc (v := 11) rfl rfl (by decide +kernel) ?_
  refine Go_st rfl rfl ?_
  refine Go_st rfl rfl ?_
  refine Go_st rfl rfl ?_
  refine Go_st rfl rfl ?_
  refine Go_ifF (by decide +kernel) ?_
  refine Go_st rfl rfl ?_
  refine Go_st rfl rfl ?_
  refine Go_st rfl rfl ?_
  refine Go_bin (v := 16) rfl (by decide +kernel) ?_
  refine Go_st rfl rfl ?_
  refine Go_bin (v := 27) rfl (by decide +kernel) ?_
  refine Go_st rfl rfl ?_
  refine Go_st rfl rfl ?_
  refine Go_st rfl rfl ?_
  refine Go_bin (v := 0) rfl (by decide +kernel) ?_
  refine Go_st rfl rfl ?_
  refine Go_bin (v := 11) rfl (by decide +kernel) ?_
  refine Go_iald (v := 0) rfl rfl (by decide +kernel) (by decide +kernel) ?_
  refine Go_iast0 rfl rfl (by decide +kernel) ?_
  refine Go_inc (v := 12) rfl rfl (by decide +kernel) ?_
  refine Go_st rfl rfl ?_
  refine Go_st rfl rfl ?_
  refine Go_st rfl rfl ?_
  refine Go_st rfl rfl ?_
  refine Go_ifF (by decide +kernel) ?_
  refine Go_st rfl rfl ?_
  refine Go_st rfl rfl ?_
  refine Go_st rfl rfl ?_
  refine Go_bin (v := 16) rfl (by decide +kernel) ?_
  refine Go_st rfl rfl ?_
  refine Go_bin (v := 28) rfl (by decide +kernel) ?_
  refine Go_st rfl rfl ?_
  refine Go_st rfl rfl ?_
  refine Go_st rfl rfl ?_
  refine Go_bin (v := 0) rfl (by decide +kernel) ?_
  refine Go_st rfl rfl ?_
  refine Go_bin (v := 12) rfl (by decide +kernel) ?_
  refine Go_iald (v := 0) rfl rfl (by decide +kernel) (by decide +kernel) ?_
  refine Go_iast0 rfl rfl (by decide +kernel) ?_
  refine Go_inc (v := 13) rfl rfl (by decide +kernel) ?_
  refine Go_st rfl rfl ?_
  refine Go_st rfl rfl ?_
  refine Go_st rfl rfl ?_
  refine Go_st rfl rfl ?_
  refine Go_ifF (by decide +kernel) ?_
  refine Go_st rfl rfl ?_
  refine Go_st rfl rfl ?_
  refine Go_st rfl rfl ?_
  refine Go_bin (v := 16) rfl (by decide +kernel) ?_
  refine Go_st rfl rfl ?_
  refine Go_bin (v := 29) rfl (by decide +kernel) ?_
  refine Go_st rfl rfl ?_
  refine Go_st rfl rfl ?_
  refine Go_st rfl rfl ?_
  refine Go_bin (v := 0) rfl (by decide +kernel) ?_
  refine Go_st rfl rfl ?_
  refine Go_bin (v := 13) rfl (by decide +kernel) ?_
  refine Go_iald (v := 0) rfl rfl (by decide +kernel) (by decide +kernel) ?_
  refine Go_iast0 rfl rfl (by decide +kernel) ?_
  refine Go_inc (v := 14) rfl rfl (by decide +kernel) ?_
  refine Go_st rfl rfl ?_
  refine Go_st rfl rfl ?_
  refine Go_st rfl rfl ?_
  refine Go_st rfl rfl ?_
  refine Go_ifF (by decide +kernel) ?_
  refine Go_st rfl rfl ?_
  refine Go_st rfl rfl ?_
  refine Go_st rfl rfl ?_
  refine Go_bin (v := 16) rfl (by decide +kernel) ?_
  refine Go_st rfl rfl ?_
  refine Go_bin (v := 30) rfl (by decide +kernel) ?_
  refine Go_st rfl rfl ?_
  refine Go_st rfl rfl ?_
  refine Go_st rfl rfl ?_
  refine Go_bin (v := 0) rfl (by decide +kernel) ?_
  refine Go_st rfl rfl ?_
  refine Go_bin (v := 14) rfl (by decide +kernel) ?_
  refine Go_iald (v := 0) rfl rfl (by decide +kernel) (by decide +kernel) ?_
  refine Go_iast0 rfl rfl (by decide +kernel) ?_
  refine Go_inc (v := 15) rfl rfl (by decide +kernel) ?_
  refine Go_st rfl rfl ?_
  refine Go_st rfl rfl ?_
  refine Go_st rfl rfl ?_
  refine Go_st rfl rfl ?_
  refine Go_ifF (by decide +kernel) ?_
  refine Go_st rfl rfl ?_
  refine Go_st rfl rfl ?_
  refine Go_st rfl rfl ?_
  refine Go_bin (v := 16) rfl (by decide +kernel) ?_
  refine Go_st rfl rfl ?_
  refine Go_bin (v := 31) rfl (by decide +kernel) ?_
  refine Go_st rfl rfl ?_
  refine Go_st rfl rfl ?_
  refine Go_st rfl rfl ?_
  refine Go_bin (v := 0) rfl (by decide +kernel) ?_
  refine Go_st rfl rfl ?_
  refine Go_bin (v := 15) rfl (by decide +kernel) ?_
  refine Go_iald (v := 0) rfl rfl (by decide +kernel) (by decide +kernel) ?_
  refine Go_iast0 rfl rfl (by decide +kernel) ?_
  refine Go_inc (v := 16) rfl rfl (by decide +kernel) ?_
  refine Go_st rfl rfl ?_
  refine Go_st rfl rfl ?_
  refine Go_st rfl rfl ?_
  refine Go_st rfl rfl ?_
  refine Go_ifT (by decide +kernel) ?_
  exact Go_ret rfl ⟨rfl, rfl⟩
set_option maxRecDepth 20000 in
set_option maxHeartbeats 4000000 in
theorem rm_X9_copyRow_60_0_1 (c : Nat → pm_E) (d : Nat)  : pm_Rt pm_P (d + 1) 132 (hpm c) [.ref 87, .int 60, .int 0, .int 1] (hpm c) none := by
  refine Rt_of aiX9_copyRow (Nat.le_of_ble_eq_true rfl) ?_
  refine Go_st rfl rfl ?_
  refine Go_st rfl rfl ?_
  refine Go_st rfl rfl ?_
  refine Go_st rfl rfl ?_
  refine Go_st rfl rfl ?_
  refine Go_ifF (by decide +kernel) ?_
  refine Go_st rfl rfl ?_
  refine Go_st rfl rfl ?_
  refine Go_st rfl rfl ?_
  refine Go_bin (v := 60) rfl (by decide +kernel) ?_
  refine Go_st rfl rfl ?_
  refine Go_bin (v := 60) rfl (by decide +kernel) ?_
  refine Go_st rfl rfl ?_
  refine Go_st rfl rfl ?_
  refine Go_st rfl rfl ?_
  refine Go_bin (v := 0) rfl (by decide +kernel) ?_
  refine Go_st rfl rfl ?_
  refine Go_bin (v := 0) rfl (by decide +kernel) ?_
  refine Go_iald (v := 0) rfl rfl (by decide +kernel) (by decide +kernel) ?_
  refine Go_iast0 rfl rfl (by decide +kernel) ?_
  refine Go_inc (v := 1) rfl rfl (by decide +kernel) ?_
  refine Go_st rfl rfl ?_
  refine Go_st rfl rfl ?_
  refine Go_st rfl rfl ?_
  refine Go_st rfl rfl ?_
  refine Go_ifF (by decide +kernel) ?_
  refine Go_st rfl rfl ?_
  refine Go_st rfl rfl ?_
  refine Go_st rfl rfl ?_
  refine Go_bin (v := 60) rfl (by decide +kernel) ?_
  refine Go_st rfl rfl ?_
  refine Go_bin (v := 61) rfl (by decide +kernel) ?_
  refine Go_st rfl rfl ?_
  refine Go_st rfl rfl ?_
  refine Go_st rfl rfl ?_
  refine Go_bin (v := 0) rfl (by decide +kernel) ?_
  refine Go_st rfl rfl ?_
  refine Go_bin (v := 1) rfl (by decide +kernel) ?_
  refine Go_iald (v := 0) rfl rfl (by decide +kernel) (by decide +kernel) ?_
  refine Go_iast0 rfl rfl (by decide +kernel) ?_
  refine Go_inc (v := 2) rfl rfl (by decide +kernel) ?_
  refine Go_st rfl rfl ?_
  refine Go_st rfl rfl ?_
  refine Go_st rfl rfl ?_
  refine Go_st rfl rfl ?_
  refine Go_ifF (by decide +kernel) ?_
  refine Go_st rfl rfl ?_
  refine Go_st rfl rfl ?_
  refine Go_st rfl rfl ?_
  refine Go_bin (v := 60) rfl (by decide +kernel) ?_
  refine Go_st rfl rfl ?_
  refine Go_bin (v := 62) rfl (by decide +kernel) ?_
  refine Go_st rfl rfl ?_
  refine Go_st rfl rfl ?_
  refine Go_st rfl rfl ?_
  refine Go_bin (v := 0) rfl (by decide +kernel) ?_
  refine Go_st rfl rfl ?_
  refine Go_bin (v := 2) rfl (by decide +kernel) ?_
  refine Go_iald (v := 0) rfl rfl (by decide +kernel) (by decide +kernel) ?_
  refine Go_iast0 rfl rfl (by decide +kernel) ?_
  refine Go_inc (v := 3) rfl rfl (by decide +kernel) ?_
  refine Go_st rfl rfl ?_
  refine Go_st rfl rfl ?_
  refine Go_st rfl rfl ?_
  refine Go_st rfl rfl ?_
  refine Go_ifF (by decide +kernel) ?_
  refine Go_st rfl rfl ?_
  refine Go_st rfl rfl ?_
  refine Go_st rfl rfl ?_
  refine Go_bin (v := 60) rfl (by decide +kernel) ?_
  refine Go_st rfl rfl ?_
  refine Go_bin (v := 63) rfl (by decide +kernel) ?_
  refine Go_st rfl rfl ?_
  refine Go_st rfl rfl ?_
  refine Go_st rfl rfl ?_
  refine Go_bin (v := 0) rfl (by decide +kernel) ?_
  refine Go_st rfl rfl ?_
  refine Go_bin (v := 3) rfl (by decide +kernel) ?_
  refine Go_iald (v := 0) rfl rfl (by decide +kernel) (by decide +kernel) ?_
  refine Go_iast0 rfl rfl (by decide +kernel) ?_
  refine Go_inc (v := 4) rfl rfl (by decide +kernel) ?_
  refine Go_st rfl rfl ?_
  refine Go_st rfl rfl ?_
  refine Go_st rfl rfl ?_
  refine Go_st rfl rfl ?_
  refine Go_ifF (by decide +kernel) ?_
  refine Go_st rfl rfl ?_
  refine Go_st rfl rfl ?_
  refine Go_st rfl rfl ?_
  refine Go_bin (v := 60) rfl (by decide +kernel) ?_
  refine Go_st rfl rfl ?_
  refine Go_bin (v := 64) rfl (by decide +kernel) ?_
  refine Go_st rfl rfl ?_
  refine Go_st rfl rfl ?_
  refine Go_st rfl rfl ?_
  refine Go_bin (v := 0) rfl (by decide +kernel) ?_
  refine Go_st rfl rfl ?_
  refine Go_bin (v := 4) rfl (by decide +kernel) ?_
  refine Go_iald (v := 0) rfl rfl (by decide +kernel) (by decide +kernel) ?_
  refine Go_iast0 rfl rfl (by decide +kernel) ?_
  refine Go_inc (v := 5) rfl rfl (by decide +kernel) ?_
  refine Go_st rfl rfl ?_
  refine Go_st rfl rfl ?_
  refine Go_st rfl rfl ?_
  refine Go_st rfl rfl ?_
  refine Go_ifF (by decide +kernel) ?_
  refine Go_st rfl rfl ?_
  refine Go_st rfl rfl ?_
  refine Go_st rfl rfl ?_
  refine Go_bin (v := 60) rfl (by decide +kernel) ?_
  refine Go_st rfl rfl ?_
  refine Go_bin (v := 65) rfl (by decide +kernel) ?_
  refine Go_st rfl rfl ?_
  refine Go_st rfl rfl ?_
  refine Go_st rfl rfl ?_
  refine Go_bin (v := 0) rfl (by decide +kernel) ?_
  refine Go_st rfl rfl ?_
  refine Go_bin (v := 5) rfl (by decide +kernel) ?_
  refine Go_iald (v := 0) rfl rfl (by decide +kernel) (by decide +kernel) ?_
  refine Go_iast0 rfl rfl (by decide +kernel) ?_
  refine Go_inc (v := 6) rfl rfl (by decide +kernel) ?_
  refine Go_st rfl rfl ?_
  refine Go_st rfl rfl ?_
  refine Go_st rfl rfl ?_
  refine Go_st rfl rfl ?_
  refine Go_ifF (by decide +kernel) ?_
  refine Go_st rfl rfl ?_
  refine Go_st rfl rfl ?_
  refine Go_st rfl rfl ?_
  refine Go_bin (v := 60) rfl (by decide +kernel) ?_
  refine Go_st rfl rfl ?_
  refine Go_bin (v := 66) rfl (by decide +kernel) ?_
  refine Go_st rfl rfl ?_
  refine Go_st rfl rfl ?_
  refine Go_st rfl rfl ?_
  refine Go_bin (v := 0) rfl (by decide +kernel) ?_
  refine Go_st rfl rfl ?_
  refine Go_bin (v := 6) rfl (by decide +kernel) ?_
  refine Go_iald (v := 0) rfl rfl (by decide +kernel) (by decide +kernel) ?_
  refine Go_iast0 rfl rfl (by decide +kernel) ?_
  refine Go_inc (v := 7) rfl rfl (by decide +kernel) ?_
  refine Go_st rfl rfl ?_
  refine Go_st rfl rfl ?_
  refine Go_st rfl rfl ?_
  refine Go_st rfl rfl ?_
  refine Go_ifF (by decide +kernel) ?_
  refine Go_st rfl rfl ?_
  refine Go_st rfl rfl ?_
  refine Go_st rfl rfl ?_
  refine Go_bin (v := 60) rfl (by decide +kernel) ?_
  refine Go_st rfl rfl ?_
  refine Go_bin (v := 67) rfl (by decide +kernel) ?_
  refine Go_st rfl rfl ?_
  refine Go_st rfl rfl ?_
  refine Go_st rfl rfl ?_
  refine Go_bin (v := 0) rfl (by decide +kernel) ?_
  refine Go_st rfl rfl ?_
  refine Go_bin (v := 7) rfl (by decide +kernel) ?_
  refine Go_iald (v := 0) rfl rfl (by decide +kernel) (by decide +kernel) ?_
  refine Go_iast0 rfl rfl (by decide +kernel) ?_
  refine Go_inc (v := 8) rfl rfl (by decide +kernel) ?_
  refine Go_st rfl rfl ?_
  refine Go_st rfl rfl ?_
  refine Go_st rfl rfl ?_
  refine Go_st rfl rfl ?_
  refine Go_ifF (by decide +kernel) ?_
  refine Go_st rfl rfl ?_
  refine Go_st rfl rfl ?_
  refine Go_st rfl rfl ?_
  refine Go_bin (v := 60) rfl (by decide +kernel) ?_
  refine Go_st rfl rfl ?_
  refine Go_bin (v := 68) rfl (by decide +kernel) ?_
  refine Go_st rfl rfl ?_
  refine Go_st rfl rfl ?_
  refine Go_st rfl rfl ?_
  refine Go_bin (v := 0) rfl (by decide +kernel) ?_
  refine Go_st rfl rfl ?_
  refine Go_bin (v := 8) rfl (by decide +kernel) ?_
  refine Go_iald (v := 0) rfl rfl (by decide +kernel) (by decide +kernel) ?_
  refine Go_iast0 rfl rfl (by decide +kernel) ?_
  refine Go_inc (v := 9) rfl rfl (by decide +kernel) ?_
  refine Go_st rfl rfl ?_
  refine Go_st rfl rfl ?_
  refine Go_st rfl rfl ?_
  refine Go_st rfl rfl ?_
  refine Go_ifF (by decide +kernel) ?_
  refine Go_st rfl rfl ?_
  refine Go_st rfl rfl ?_
  refine Go_st rfl rfl ?_
  refine Go_bin (v := 60) rfl (by decide +kernel) ?_
  refine Go_st rfl rfl ?_
  refine Go_bin (v := 69) rfl (by decide +kernel) ?_
  refine Go_st rfl rfl ?_
  refine Go_st rfl rfl ?_
  refine Go_st rfl rfl ?_
  refine Go_bin (v := 0) rfl (by decide +kernel) ?_
  refine Go_st rfl rfl ?_
  refine Go_bin (v := 9) rfl (by decide +kernel) ?_
  refine Go_iald (v := 0) rfl rfl (by decide +kernel) (by decide +kernel) ?_
  refine Go_iast0 rfl rfl (by decide +kernel) ?_
  refine Go_inc (v := 10) rfl rfl (by decide +kernel) ?_
  refine Go_st rfl rfl ?_
  refine Go_st rfl rfl ?_
  refine Go_st rfl rfl ?_
  refine Go_st rfl rfl ?_
  refine Go_ifF (by decide +kernel) ?_
  refine Go_st rfl rfl ?_
  refine Go_st rfl rfl ?_
  refine Go_st rfl rfl ?_
  refine Go_bin (v := 60) rfl (by decide +kernel) ?_
  refine Go_st rfl rfl ?_
  refine Go_bin (v := 70) rfl (by decide +kernel) ?_
  refine Go_st rfl rfl ?_
  refine Go_st rfl rfl ?_
  refine Go_st rfl rfl ?_
  refine Go_bin (v := 0) rfl (by decide +kernel) ?_
  refine Go_st rfl rfl ?_
  refine Go_bin (v := 10) rfl (by decide +kernel) ?_
  refine Go_iald (v := 0) rfl rfl (by decide +kernel) (by decide +kernel) ?_
  refine Go_iast0 rfl rfl (by decide +kernel) ?_
  refine Go_inc (v := 11) rfl rfl (by decide +kernel) ?_
  refine Go_st rfl rfl ?_
  refine Go_st rfl rfl ?_
  refine Go_st rfl rfl ?_
  refine Go_st rfl rfl ?_
  refine Go_ifF (by decide +kernel) ?_
  refine Go_st rfl rfl ?_
  refine Go_st rfl rfl ?_
  refine Go_st rfl rfl ?_
  refine Go_bin (v := 60) rfl (by decide +kernel) ?_
  refine Go_st rfl rfl ?_
  refine Go_bin (v := 71) rfl (by decide +kernel) ?_
  refine Go_st rfl rfl ?_
  refine Go_st rfl rfl ?_
  refine Go_st rfl rfl ?_
  refine Go_bin (v := 0) rfl (by decide +kernel) ?_
  refine Go_st rfl rfl ?_
  refine Go_bin (v := 11) rfl (by decide +kernel) ?_
  refine Go_iald (v := 0) rfl rfl (by decide +kernel) (by decide +kernel) ?_
  refine Go_iast0 rfl rfl (by decide +kernel) ?_
  refine Go_inc (v := 12) rfl rfl (by decide +kernel) ?_
  refine Go_st rfl rfl ?_
  refine Go_st rfl rfl ?_
  refine Go_st rfl rfl ?_
  refine Go_st rfl rfl ?_
  refine Go_ifF (by decide +kernel) ?_
  refine Go_st rfl rfl ?_
  refine Go_st rfl rfl ?_
  refine Go_st rfl rfl ?_
  refine Go_bin (v := 60) rfl (by decide +kernel) ?_
  refine Go_st rfl rfl ?_
  refine Go_bin (v := 72) rfl (by decide +kernel) ?_
  refine Go_st rfl rfl ?_
  refine Go_st rfl rfl ?_
  refine Go_st rfl rfl ?_
  refine Go_bin (v := 0) rfl (by decide +kernel) ?_
  refine Go_st rfl rfl ?_
  refine Go_bin (v := 12) rfl (by decide +kernel) ?_
  refine Go_iald (v := 0) rfl rfl (by decide +kernel) (by decide +kernel) ?_
  refine Go_iast0 rfl rfl (by decide +kernel) ?_
  refine Go_inc (v := 13) rfl rfl (by decide +kernel) ?_
  refine Go_st rfl rfl ?_
  refine Go_st rfl rfl ?_
  refine Go_st rfl rfl ?_
  refine Go_st rfl rfl ?_
  refine Go_ifF (by decide +kernel) ?_
  refine Go_st rfl rfl ?_
  refine Go_st rfl rfl ?_
  refine Go_st rfl rfl ?_
  refine Go_bin (v := 60) rfl (by decide +kernel) ?_
  refine Go_st rfl rfl ?_
  refine Go_bin (v := 73) rfl (by decide +kernel) ?_
  refine Go_st rfl rfl ?_
  refine Go_st rfl rfl ?_
  refine Go_st rfl rfl ?_
  refine Go_bin (v := 0) rfl (by decide +kernel) ?_
  refine Go_st rfl rfl ?_
  refine Go_bin (v := 13) rfl (by decide +kernel) ?_
  refine Go_iald (v := 0) rfl rfl (by decide +kernel) (by decide +kernel) ?_
  refine Go_iast0 rfl rfl (by decide +kernel) ?_
  refine Go_inc (v := 14) rfl rfl (by decide +kernel) ?_
  refine Go_st rfl rfl ?_
  refine Go_st rfl rfl ?_
  refine Go_st rfl rfl ?_
  refine Go_st rfl rfl ?_
  refine Go_ifF (by decide +kernel) ?_
  refine Go_st rfl rfl ?_
  refine Go_st rfl rfl ?_
  refine Go_st rfl rfl ?_
  refine Go_bin (v := 60) rfl (by decide +kernel) ?_
  refine Go_st rfl rfl ?_
  refine Go_bin (v := 74) rfl (by decide +kernel) ?_
  refine Go_st rfl rfl ?_
  refine Go_st rfl rfl ?_
  refine Go_st rfl rfl ?_
  refine Go_bin (v := 0) rfl (by decide +kernel) ?_
  refine Go_st rfl rfl ?_
  refine Go_bin (v := 14) rfl (by decide +kernel) ?_
  refine Go_iald (v := 0) rfl rfl (by decide +kernel) (by decide +kernel) ?_
  refine Go_iast0 rfl rfl (by decide +kernel) ?_
  refine Go_inc (v := 15) rfl rfl (by decide +kernel) ?_
  refine Go_st rfl rfl ?_
  refine Go_st rfl rfl ?_
  refine Go_st rfl rfl ?_
  refine Go_st rfl rfl ?_
  refine Go_ifF (by decide +kernel) ?_
  refine Go_st rfl rfl ?_
  refine Go_st rfl rfl ?_
  refine Go_st rfl rfl ?_
  refine Go_bin (v := 60) rfl (by decide +kernel) ?_
  refine Go_st rfl rfl ?_
  refine Go_bin (v := 75) rfl (by decide +kernel) ?_
  refine Go_st rfl rfl ?_
  refine Go_st rfl rfl ?_
  refine Go_st rfl rfl ?_
  refine Go_bin (v := 0) rfl (by decide +kernel) ?_
  refine Go_st rfl rfl ?_
  refine Go_bin (v := 15) rfl (by decide +kernel) ?_
  refine Go_iald (v := 0) rfl rfl (by decide +kernel) (by decide +kernel) ?_
  refine Go_iast0 rfl rfl (by decide +kernel) ?_
  refine Go_inc (v := 16) rfl rfl (by decide +kernel) ?_
  refine Go_st rfl rfl ?_
  refine Go_st rfl rfl ?_
  refine Go_st rfl rfl ?_
  refine Go_st rfl rfl ?_
  refine Go_ifF (by decide +kernel) ?_
  refine Go_st rfl rfl ?_
  refine Go_st rfl rfl ?_
  refine Go_st rfl rfl ?_
  refine Go_bin (v := 60) rfl (by decide +kernel) ?_
  refine Go_st rfl rfl ?_
  refine Go_bin (v := 76) rfl (by decide +kernel) ?_
  refine Go_st rfl rfl ?_
  refine Go_st rfl rfl ?_
  refine Go_st rfl rfl ?_
  refine Go_bin (v := 0) rfl (by decide +kernel) ?_
  refine Go_st rfl rfl ?_
  refine Go_bin (v := 16) rfl (by decide +kernel) ?_
  refine Go_iald (v := 0) rfl rfl (by decide +kernel) (by decide +kernel) ?_
  refine Go_iast0 rfl rfl (by decide +kernel) ?_
  refine Go_inc (v := 17) rfl rfl (by decide +kernel) ?_
  refine Go_st rfl rfl ?_
  refine Go_st rfl rfl ?_
  refine Go_st rfl rfl ?_
  refine Go_st rfl rfl ?_
  refine Go_ifF (by decide +kernel) ?_
  refine Go_st rfl rfl ?_
  refine Go_st rfl rfl ?_
  refine Go_st rfl rfl ?_
  refine Go_bin (v := 60) rfl (by decide +kernel) ?_
  refine Go_st rfl rfl ?_
  refine Go_bin (v := 77) rfl (by decide +kernel) ?_
  refine Go_st rfl rfl ?_
  refine Go_st rfl rfl ?_
  refine Go_st rfl rfl ?_
  refine Go_bin (v := 0) rfl (by decide +kernel) ?_
  refine Go_st rfl rfl ?_
  refine Go_bin (v := 17) rfl (by decide +kernel) ?_
  refine Go_iald (v := 0) rfl rfl (by decide +kernel) (by decide +kernel) ?_
  refine Go_iast0 rfl rfl (by decide +kernel) ?_
  refine Go_inc (v := 18) rfl rfl (by decide +kernel) ?_
  refine Go_st rfl rfl ?_
  refine Go_st rfl rfl ?_
  refine Go_st rfl rfl ?_
  refine Go_st rfl rfl ?_
  refine Go_ifF (by decide +kernel) ?_
  refine Go_st rfl rfl ?_
  refine Go_st rfl rfl ?_
  refine Go_st rfl rfl ?_
  refine Go_bin (v := 60) rfl (by decide +kernel) ?_
  refine Go_st rfl rfl ?_
  refine Go_bin (v := 78) rfl (by decide +kernel) ?_
  refine Go_st rfl rfl ?_
  refine Go_st rfl rfl ?_
  refine Go_st rfl rfl ?_
  refine Go_bin (v := 0) rfl (by decide +kernel) ?_
  refine Go_st rfl rfl ?_
  refine Go_bin (v := 18) rfl (by decide +kernel) ?_
  refine Go_iald (v := 0) rfl rfl (by decide +kernel) (by decide +kernel) ?_
  refine Go_iast0 rfl rfl (by decide +kernel) ?_
  refine Go_inc (v := 19) rfl rfl (by decide +kernel) ?_
  refine Go_st rfl rfl ?_
  refine Go_st rfl rfl ?_
  refine Go_st rfl rfl ?_
  refine Go_st rfl rfl ?_
  refine Go_ifF (by decide +kernel) ?_
  refine Go_st rfl rfl ?_
  refine Go_st rfl rfl ?_
  refine Go_st rfl rfl ?_
  refine Go_bin (v := 60) rfl (by decide +kernel) ?_
  refine Go_st rfl rfl ?_
  refine Go_bin (v := 79) rfl (by decide +kernel) ?_
  refine Go_st rfl rfl ?_
  refine Go_st rfl rfl ?_
  refine Go_st rfl rfl ?_
  refine Go_bin (v := 0) rfl (by decide +kernel) ?_
  refine Go_st rfl rfl ?_
  refine Go_bin (v := 19) rfl (by decide +kernel) ?_
  refine Go_iald (v := 0) rfl rfl (by decide +kernel) (by decide +kernel) ?_
  refine Go_iast0 rfl rfl (by decide +kernel) ?_
  refine Go_inc (v := 20) rfl rfl (by decide +kernel) ?_
  refine Go_st rfl rfl ?_
  refine Go_st rfl rfl ?_
  refine Go_st rfl rfl ?_
  refine Go_st rfl rfl ?_
  refine Go_ifF (by decide +kernel) ?_
  refine Go_st rfl rfl ?_
  refine Go_st rfl rfl ?_
  refine Go_st rfl rfl ?_
  refine Go_bin (v := 60) rfl (by decide +kernel) ?_
  refine Go_st rfl rfl ?_
  refine Go_bin (v := 80) rfl (by decide +kernel) ?_
  refine Go_st rfl rfl ?_
  refine Go_st rfl rfl ?_
  refine Go_st rfl rfl ?_
  refine Go_bin (v := 0) rfl (by decide +kernel) ?_
  refine Go_st rfl rfl ?_
  refine Go_bin (v := 20) rfl (by decide +kernel) ?_
  refine Go_iald (v := 0) rfl rfl (by decide +kernel) (by decide +kernel) ?_
  refine Go_iast0 rfl rfl (by decide +kernel) ?_
  refine Go_inc (v := 21) rfl rfl (by decide +kernel) ?_
  refine Go_st rfl rfl ?_
  refine Go_st rfl rfl ?_
  refine Go_st rfl rfl ?_
  refine Go_st rfl rfl ?_
  refine Go_ifF (by decide +kernel) ?_
  refine Go_st rfl rfl ?_
  refine Go_st rfl rfl ?_
  refine Go_st rfl rfl ?_
  refine Go_bin (v := 60) rfl (by decide +kernel) ?_
  refine Go_st rfl rfl ?_
  refine Go_bin (v := 81) rfl (by decide +kernel) ?_
  refine Go_st rfl rfl ?_
  refine Go_st rfl rfl ?_
  refine Go_st rfl rfl ?_
  refine Go_bin (v := 0) rfl (by decide +kernel) ?_
  refine Go_st rfl rfl ?_
  refine Go_bin (v := 21) rfl (by decide +kernel) ?_
  refine Go_iald (v := 0) rfl rfl (by decide +kernel) (by decide +kernel) ?_
  refine Go_iast0 rfl rfl (by decide +kernel) ?_
  refine Go_inc (v := 22) rfl rfl (by decide +kernel) ?_
  refine Go_st rfl rfl ?_
  refine Go_st rfl rfl ?_
  refine Go_st rfl rfl ?_
  refine Go_st rfl rfl ?_
  refine Go_ifF (by decide +kernel) ?_
  refine Go_st rfl rfl ?_
  refine Go_st rfl rfl ?_
  refine Go_st rfl rfl ?_
  refine Go_bin (v := 60) rfl (by decide +kernel) ?_
  refine Go_st rfl rfl ?_
  refine Go_bin (v := 82) rfl (by decide +kernel) ?_
  refine Go_st rfl rfl ?_
  refine Go_st rfl rfl ?_
  refine Go_st rfl rfl ?_
  refine Go_bin (v := 0) rfl (by decide +kernel) ?_
  refine Go_st rfl rfl ?_
  refine Go_bin (v := 22) rfl (by decide +kernel) ?_
  refine Go_iald (v := 0) rfl rfl (by decide +kernel) (by decide +kernel) ?_
  refine Go_iast0 rfl rfl (by decide +kernel) ?_
  refine Go_inc (v := 23) rfl rfl (by decide +kernel) ?_
  refine Go_st rfl rfl ?_
  refine Go_st rfl rfl ?_
  refine Go_st rfl rfl ?_
  refine Go_st rfl rfl ?_
  refine Go_ifF (by decide +kernel) ?_
  refine Go_st rfl rfl ?_
  refine Go_st rfl rfl ?_
  refine Go_st rfl rfl ?_
  refine Go_bin (v := 60) rfl (by decide +kernel) ?_
  refine Go_st rfl rfl ?_
  refine Go_bin (v := 83) rfl (by decide +kernel) ?_
  refine Go_st rfl rfl ?_
  refine Go_st rfl rfl ?_
  refine Go_st rfl rfl ?_
  refine Go_bin (v := 0) rfl (by decide +kernel) ?_
  refine Go_st rfl rfl ?_
  refine Go_bin (v := 23) rfl (by decide +kernel) ?_
  refine Go_iald (v := 0) rfl rfl (by decide +kernel) (by decide +kernel) ?_
  refine Go_iast0 rfl rfl (by decide +kernel) ?_
  refine Go_inc (v := 24) rfl rfl (by decide +kernel) ?_
  refine Go_st rfl rfl ?_
  refine Go_st rfl rfl ?_
  refine Go_st rfl rfl ?_
  refine Go_st rfl rfl ?_
  refine Go_ifF (by decide +kernel) ?_
  refine Go_st rfl rfl ?_
  refine Go_st rfl rfl ?_
  refine Go_st rfl rfl ?_
  refine Go_bin (v := 60) rfl (by decide +kernel) ?_
  refine Go_st rfl rfl ?_
  refine Go_bin (v := 84) rfl (by decide +kernel) ?_
  refine Go_st rfl rfl ?_
  refine Go_st rfl rfl ?_
  refine Go_st rfl rfl ?_
  refine Go_bin (v := 0) rfl (by decide +kernel) ?_
  refine Go_st rfl rfl ?_
  refine Go_bin (v := 24) rfl (by decide +kernel) ?_
  refine Go_iald (v := 0) rfl rfl (by decide +kernel) (by decide +kernel) ?_
  refine Go_iast0 rfl rfl (by decide +kernel) ?_
  refine Go_inc (v := 25) rfl rfl (by decide +kernel) ?_
  refine Go_st rfl rfl ?_
  refine Go_st rfl rfl ?_
  refine Go_st rfl rfl ?_
  refine Go_st rfl rfl ?_
  refine Go_ifF (by decide +kernel) ?_
  refine Go_st rfl rfl ?_
  refine Go_st rfl rfl ?_
  refine Go_st rfl rfl ?_
  refine Go_bin (v := 60) rfl (by decide +kernel) ?_
  refine Go_st rfl rfl ?_
  refine Go_bin (v := 85) rfl (by decide +kernel) ?_
  refine Go_st rfl rfl ?_
  refine Go_st rfl rfl ?_
  refine Go_st rfl rfl ?_
  refine Go_bin (v := 0) rfl (by decide +kernel) ?_
  refine Go_st rfl rfl ?_
  refine Go_bin (v := 25) rfl (by decide +kernel) ?_
  refine Go_iald (v := 0) rfl rfl (by decide +kernel) (by decide +kernel) ?_
  refine Go_iast0 rfl rfl (by decide +kernel) ?_
  refine Go_inc (v := 26) rfl rfl (by decide +kernel) ?_
  refine Go_st rfl rfl ?_
  refine Go_st rfl rfl ?_
  refine Go_st rfl rfl ?_
  refine Go_st rfl rfl ?_
  refine Go_ifF (by decide +kernel) ?_
  refine Go_st rfl rfl ?_
  refine Go_st rfl rfl ?_
  refine Go_st rfl rfl ?_
  refine Go_bin (v := 60) rfl (by decide +kernel) ?_
  refine Go_st rfl rfl ?_
  refine Go_bin (v := 86) rfl (by decide +kernel) ?_
  refine Go_st rfl rfl ?_
  refine Go_st rfl rfl ?_
  refine Go_st rfl rfl ?_
  refine Go_bin (v := 0) rfl (by decide +kernel) ?_
  refine Go_st rfl rfl ?_
  refine Go_bin (v := 26) rfl (by decide +kernel) ?_
  refine Go_iald (v := 0) rfl rfl (by decide +kernel) (by decide +kernel) ?_
  refine Go_iast0 rfl rfl (by decide +kernel) ?_
  refine Go_inc (v := 27) rfl rfl (by decide +kernel) ?_
  refine Go_st rfl rfl ?_
  refine Go_st rfl rfl ?_
  refine Go_st rfl rfl ?_
  refine Go_st rfl rfl ?_
  refine Go_ifF (by decide +kernel) ?_
  refine Go_st rfl rfl ?_
  refine Go_st rfl rfl ?_
  refine Go_st rfl rfl ?_
  refine Go_bin (v := 60) rfl (by decide +kernel) ?_
  refine Go_st rfl rfl ?_
  refine Go_bin (v := 87) rfl (by decide +kernel) ?_
  refine Go_st rfl rfl ?_
  refine Go_st rfl rfl ?_
  refine Go_st rfl rfl ?_
  refine Go_bin (v := 0) rfl (by decide +kernel) ?_
  refine Go_st rfl rfl ?_
  refine Go_bin (v := 27) rfl (by decide +kernel) ?_
  refine Go_iald (v := 0) rfl rfl (by decide +kernel) (by decide +kernel) ?_
  refine Go_iast0 rfl rfl (by decide +kernel) ?_
  refine Go_inc (v := 28) rfl rfl (by decide +kernel) ?_
  refine Go_st rfl rfl ?_
  refine Go_st rfl rfl ?_
  refine Go_st rfl rfl ?_
  refine Go_st rfl rfl ?_
  refine Go_ifF (by decide +kernel) ?_
  refine Go_st rfl rfl ?_
  refine Go_st rfl rfl ?_
  refine Go_st rfl rfl ?_
  refine Go_bin (v := 60) rfl (by decide +kernel) ?_
  refine Go_st rfl rfl ?_
  refine Go_bin (v := 88) rfl (by decide +kernel) ?_
  refine Go_st rfl rfl ?_
  refine Go_st rfl rfl ?_
  refine Go_st rfl rfl ?_
  refine Go_bin (v := 0) rfl (by decide +kernel) ?_
  refine Go_st rfl rfl ?_
  refine Go_bin (v := 28) rfl (by decide +kernel) ?_
  refine Go_iald (v := 0) rfl rfl (by decide +kernel) (by decide +kernel) ?_
  refine Go_iast0 rfl rfl (by decide +kernel) ?_
  refine Go_inc (v := 29) rfl rfl (by decide +kernel) ?_
  refine Go_st rfl rfl ?_
  refine Go_st rfl rfl ?_
  refine Go_st rfl rfl ?_
  refine Go_st rfl rfl ?_
  refine Go_ifF (by decide +kernel) ?_
  refine Go_st rfl rfl ?_
  refine Go_st rfl rfl ?_
  refine Go_st rfl rfl ?_
  refine Go_bin (v := 60) rfl (by decide +kernel) ?_
  refine Go_st rfl rfl ?_
  refine Go_bin (v := 89) rfl (by decide +kernel) ?_
  refine Go_st rfl rfl ?_
  refine Go_st rfl rfl ?_
  refine Go_st rfl rfl ?_
  refine Go_bin (v := 0) rfl (by decide +kernel) ?_
  refine Go_st rfl rfl ?_
  refine Go_bin (v := 29) rfl (by decide +kernel) ?_
  refine Go_iald (v := 0) rfl rfl (by decide +kernel) (by decide +kernel) ?_
  refine Go_iast0 rfl rfl (by decide +kernel) ?_
  refine Go_inc (v := 30) rfl rfl (by decide +kernel) ?_
  refine Go_st rfl rfl ?_
  refine Go_st rfl rfl ?_
  refine Go_st rfl rfl ?_
  refine Go_st rfl rfl ?_
  refine Go_ifF (by decide +kernel) ?_
  refine Go_st rfl rfl ?_
  refine Go_st rfl rfl ?_
  refine Go_st rfl rfl ?_
  refine Go_bin (v := 60) rfl (by decide +kernel) ?_
  refine Go_st rfl rfl ?_
  refine Go_bin (v := 90) rfl (by decide +kernel) ?_
  refine Go_st rfl rfl ?_
  refine Go_st rfl rfl ?_
  refine Go_st rfl rfl ?_
  refine Go_bin (v := 0) rfl (by decide +kernel) ?_
  refine Go_st rfl rfl ?_
  refine Go_bin (v := 30) rfl (by decide +kernel) ?_
  refine Go_iald (v := 0) rfl rfl (by decide +kernel) (by decide +kernel) ?_
  refine Go_iast0 rfl rfl (by decide +kernel) ?_
  refine Go_inc (v := 31) rfl rfl (by decide +kernel) ?_
  refine Go_st rfl rfl ?_
  refine Go_st rfl rfl ?_
  refine Go_st rfl rfl ?_
  refine Go_st rfl rfl ?_
  refine Go_ifF (by decide +kernel) ?_
  refine Go_st rfl rfl ?_
  refine Go_st rfl rfl ?_
  refine Go_st rfl rfl ?_
  refine Go_bin (v := 60) rfl (by decide +kernel) ?_
  refine Go_st rfl rfl ?_
  refine Go_bin (v := 91) rfl (by decide +kernel) ?_
  refine Go_st rfl rfl ?_
  refine Go_st rfl rfl ?_
  refine Go_st rfl rfl ?_
  refine Go_bin (v := 0) rfl (by decide +kernel) ?_
  refine Go_st rfl rfl ?_
  refine Go_bin (v := 31) rfl (by decide +kernel) ?_
  refine Go_iald (v := 0) rfl rfl (by decide +kernel) (by decide +kernel) ?_
  refine Go_iast0 rfl rfl (by decide +kernel) ?_
  refine Go_inc (v := 32) rfl rfl (by decide +kernel) ?_
  refine Go_st rfl rfl ?_
  refine Go_st rfl rfl ?_
  refine Go_st rfl rfl ?_
  refine Go_st rfl rfl ?_
  refine Go_ifF (by decide +kernel) ?_
  refine Go_st rfl rfl ?_
  refine Go_st rfl rfl ?_
  refine Go_st rfl rfl ?_
  refine Go_bin (v := 60) rfl (by decide +kernel) ?_
  refine Go_st rfl rfl ?_
  refine Go_bin (v := 92) rfl (by decide +kernel) ?_
  refine Go_st rfl rfl ?_
  refine Go_st rfl rfl ?_
  refine Go_st rfl rfl ?_
  refine Go_bin (v := 0) rfl (by decide +kernel) ?_
  refine Go_st rfl rfl ?_
  refine Go_bin (v := 32) rfl (by decide +kernel) ?_
  refine Go_iald (v := 0) rfl rfl (by decide +kernel) (by decide +kernel) ?_
  refine Go_iast0 rfl rfl (by decide +kernel) ?_
  refine Go_inc (v := 33) rfl rfl (by decide +kernel) ?_
  refine Go_st rfl rfl ?_
  refine Go_st rfl rfl ?_
  refine Go_st rfl rfl ?_
  refine Go_st rfl rfl ?_
  refine Go_ifF (by decide +kernel) ?_
  refine Go_st rfl rfl ?_
  refine Go_st rfl rfl ?_
  refine Go_st rfl rfl ?_
  refine Go_bin (v := 60) rfl (by decide +kernel) ?_
  refine Go_st rfl rfl ?_
  refine Go_bin (v := 93) rfl (by decide +kernel) ?_
  refine Go_st rfl rfl ?_
  refine Go_st rfl rfl ?_
  refine Go_st rfl rfl ?_
  refine Go_bin (v := 0) rfl (by decide +kernel) ?_
  refine Go_st rfl rfl ?_
  refine Go_bin (v := 33) rfl (by decide +kernel) ?_
  refine Go_iald (v := 0) rfl rfl (by decide +kernel) (by decide +kernel) ?_
  refine Go_iast0 rfl rfl (by decide +kernel) ?_
  refine Go_inc (v := 34) rfl rfl (by decide +kernel) ?_
  refine Go_st rfl rfl ?_
  refine Go_st rfl rfl ?_
  refine Go_st rfl rfl ?_
  refine Go_st rfl rfl ?_
  refine Go_ifF (by decide +kernel) ?_
  refine Go_st rfl rfl ?_
  refine Go_st rfl rfl ?_
  refine Go_st rfl rfl ?_
  refine Go_bin (v := 60) rfl (by decide +kernel) ?_
  refine Go_st rfl rfl ?_
  refine Go_bin (v := 94) rfl (by decide +kernel) ?_
  refine Go_st rfl rfl ?_
  refine Go_st rfl rfl ?_
  refine Go_st rfl rfl ?_
  refine Go_bin (v := 0) rfl (by decide +kernel) ?_
  refine Go_st rfl rfl ?_
  refine Go_bin (v := 34) rfl (by decide +kernel) ?_
  refine Go_iald (v := 0) rfl rfl (by decide +kernel) (by decide +kernel) ?_
  refine Go_iast0 rfl rfl (by decide +kernel) ?_
  refine Go_inc (v := 35) rfl rfl (by decide +kernel) ?_
  refine Go_st rfl rfl ?_
  refine Go_st rfl rfl ?_
  refine Go_st rfl rfl ?_
  refine Go_st rfl rfl ?_
  refine Go_ifF (by decide +kernel) ?_
  refine Go_st rfl rfl ?_
  refine Go_st rfl rfl ?_
  refine Go_st rfl rfl ?_
  refine Go_bin (v := 60) rfl (by decide +kernel) ?_
  refine Go_st rfl rfl ?_
  refine Go_bin (v := 95) rfl (by decide +kernel) ?_
  refine Go_st rfl rfl ?_
  refine Go_st rfl rfl ?_
  refine Go_st rfl rfl ?_
  refine Go_bin (v := 0) rfl (by decide +kernel) ?_
  refine Go_st rfl rfl ?_
  refine Go_bin (v := 35) rfl (by decide +kernel) ?_
  refine Go_iald (v := 0) rfl rfl (by decide +kernel) (by decide +kernel) ?_
  refine Go_iast0 rfl rfl (by decide +kernel) ?_
  refine Go_inc (v := 36) rfl rfl (by decide +kernel) ?_
  refine Go_st rfl rfl ?_
  refine Go_st rfl rfl ?_
  refine Go_st rfl rfl ?_
  refine Go_st rfl rfl ?_
  refine Go_ifF (by decide +kernel) ?_
  refine Go_st rfl rfl ?_
  refine Go_st rfl rfl ?_
  refine Go_st rfl rfl ?_
  refine Go_bin (v := 60) rfl (by decide +kernel) ?_
  refine Go_st rfl rfl ?_
  refine Go_bin (v := 96) rfl (by decide +kernel) ?_
  refine Go_st rfl rfl ?_
  refine Go_st rfl rfl ?_
  refine Go_st rfl rfl ?_
  refine Go_bin (v := 0) rfl (by decide +kernel) ?_
  refine Go_st rfl rfl ?_
  refine Go_bin (v := 36) rfl (by decide +kernel) ?_
  refine Go_iald (v := 0) rfl rfl (by decide +kernel) (by decide +kernel) ?_
  refine Go_iast0 rfl rfl (by decide +kernel) ?_
  refine Go_inc (v := 37) rfl rfl (by decide +kernel) ?_
  refine Go_st rfl rfl ?_
  refine Go_st rfl rfl ?_
  refine Go_st rfl rfl ?_
  refine Go_st rfl rfl ?_
  refine Go_ifF (by decide +kernel) ?_
  refine Go_st rfl rfl ?_
  refine Go_st rfl rfl ?_
  refine Go_st rfl rfl ?_
  refine Go_bin (v := 60) rfl (by decide +kernel) ?_
  refine Go_st rfl rfl ?_
  refine Go_bin (v := 97) rfl (by decide +kernel) ?_
  refine Go_st rfl rfl ?_
  refine Go_st rfl rfl ?_
  refine Go_st rfl rfl ?_
  refine Go_bin (v := 0) rfl (by decide +kernel) ?_
  refine Go_st rfl rfl ?_
  refine Go_bin (v := 37) rfl (by decide +kernel) ?_
  refine Go_iald (v := 0) rfl rfl (by decide +kernel) (by decide +kernel) ?_
  refine Go_iast0 rfl rfl (by decide +kernel) ?_
  refine Go_inc (v := 38) rfl rfl (by decide +kernel) ?_
  refine Go_st rfl rfl ?_
  refine Go_st rfl rfl ?_
  refine Go_st rfl rfl ?_
  refine Go_st rfl rfl ?_
  refine Go_ifF (by decide +kernel) ?_
  refine Go_st rfl rfl ?_
  refine Go_st rfl rfl ?_
  refine Go_st rfl rfl ?_
  refine Go_bin (v := 60) rfl (by decide +kernel) ?_
  refine Go_st rfl rfl ?_
  refine Go_bin (v := 98) rfl (by decide +kernel) ?_
  refine Go_st rfl rfl ?_
  refine Go_st rfl rfl ?_
  refine Go_st rfl rfl ?_
  refine Go_bin (v := 0) rfl (by decide +kernel) ?_
  refine Go_st rfl rfl ?_
  refine Go_bin (v := 38) rfl (by decide +kernel) ?_
  refine Go_iald (v := 0) rfl rfl (by decide +kernel) (by decide +kernel) ?_
  refine Go_iast0 rfl rfl (by decide +kernel) ?_
  refine Go_inc (v := 39) rfl rfl (by decide +kernel) ?_
  refine Go_st rfl rfl ?_
  refine Go_st rfl rfl ?_
  refine Go_st rfl rfl ?_
  refine Go_st rfl rfl ?_
  refine Go_ifF (by decide +kernel) ?_
  refine Go_st rfl rfl ?_
  refine Go_st rfl rfl ?_
  refine Go_st rfl rfl ?_
  refine Go_bin (v := 60) rfl (by decide +kernel) ?_
  refine Go_st rfl rfl ?_
  refine Go_bin (v := 99) rfl (by decide +kernel) ?_
  refine Go_st rfl rfl ?_
  refine Go_st rfl rfl ?_
  refine Go_st rfl rfl ?_
  refine Go_bin (v := 0) rfl (by decide +kernel) ?_
  refine Go_st rfl rfl ?_
  refine Go_bin (v := 39) rfl (by decide +kernel) ?_
  refine Go_iald (v := 0) rfl rfl (by decide +kernel) (by decide +kernel) ?_
  refine Go_iast0 rfl rfl (by decide +kernel) ?_
  refine Go_inc (v := 40) rfl rfl (by decide +kernel) ?_
  refine Go_st rfl rfl ?_
  refine Go_st rfl rfl ?_
  refine Go_st rfl rfl ?_
  refine Go_st rfl rfl ?_
  refine Go_ifF (by decide +kernel) ?_
  refine Go_st rfl rfl ?_
  refine Go_st rfl rfl ?_
  refine Go_st rfl rfl ?_
  refine Go_bin (v := 60) rfl (by decide +kernel) ?_
  refine Go_st rfl rfl ?_
  refine Go_bin (v := 100) rfl (by decide +kernel) ?_
  refine Go_st rfl rfl ?_
  refine Go_st rfl rfl ?_
  refine Go_st rfl rfl ?_
  refine Go_bin (v := 0) rfl (by decide +kernel) ?_
  refine Go_st rfl rfl ?_
  refine Go_bin (v := 40) rfl (by decide +kernel) ?_
  refine Go_iald (v := 0) rfl rfl (by decide +kernel) (by decide +kernel) ?_
  refine Go_iast0 rfl rfl (by decide +kernel) ?_
  refine Go_inc (v := 41) rfl rfl (by decide +kernel) ?_
  refine Go_st rfl rfl ?_
  refine Go_st rfl rfl ?_
  refine Go_st rfl rfl ?_
  refine Go_st rfl rfl ?_
  refine Go_ifF (by decide +kernel) ?_
  refine Go_st rfl rfl ?_
  refine Go_st rfl rfl ?_
  refine Go_st rfl rfl ?_
  refine Go_bin (v := 60) rfl (by decide +kernel) ?_
  refine Go_st rfl rfl ?_
  refine Go_bin (v := 101) rfl (by decide +kernel) ?_
  refine Go_st rfl rfl ?_
  refine Go_st rfl rfl ?_
  refine Go_st rfl rfl ?_
  refine Go_bin (v := 0) rfl (by decide +kernel) ?_
  refine Go_st rfl rfl ?_
  refine Go_bin (v := 41) rfl (by decide +kernel) ?_
  refine Go_iald (v := 0) rfl rfl (by decide +kernel) (by decide +kernel) ?_
  refine Go_iast0 rfl rfl (by decide +kernel) ?_
  refine Go_inc (v := 42) rfl rfl (by decide +kernel) ?_
  refine Go_st rfl rfl ?_
  refine Go_st rfl rfl ?_
  refine Go_st rfl rfl ?_
  refine Go_st rfl rfl ?_
  refine Go_ifF (by decide +kernel) ?_
  refine Go_st rfl rfl ?_
  refine Go_st rfl rfl ?_
  refine Go_st rfl rfl ?_
  refine Go_bin (v := 60) rfl (by decide +kernel) ?_
  refine Go_st rfl rfl ?_
  refine Go_bin (v := 102) rfl (by decide +kernel) ?_
  refine Go_st rfl rfl ?_
  refine Go_st rfl rfl ?_
  refine Go_st rfl rfl ?_
  refine Go_bin (v := 0) rfl (by decide +kernel) ?_
  refine Go_st rfl rfl ?_
  refine Go_bin (v := 42) rfl (by decide +kernel) ?_
  refine Go_iald (v := 0) rfl rfl (by decide +kernel) (by decide +kernel) ?_
  refine Go_iast0 rfl rfl (by decide +kernel) ?_
  refine Go_inc (v := 43) rfl rfl (by decide +kernel) ?_
  refine Go_st rfl rfl ?_
  refine Go_st rfl rfl ?_
  refine Go_st rfl rfl ?_
  refine Go_st rfl rfl ?_
  refine Go_ifF (by decide +kernel) ?_
  refine Go_st rfl rfl ?_
  refine Go_st rfl rfl ?_
  refine Go_st rfl rfl ?_
  refine Go_bin (v := 60) rfl (by decide +kernel) ?_
  refine Go_st rfl rfl ?_
  refine Go_bin (v := 103) rfl (by decide +kernel) ?_
  refine Go_st rfl rfl ?_
  refine Go_st rfl rfl ?_
  refine Go_st rfl rfl ?_
  refine Go_bin (v := 0) rfl (by decide +kernel) ?_
  refine Go_st rfl rfl ?_
  refine Go_bin (v := 43) rfl (by decide +kernel) ?_
  refine Go_iald (v := 0) rfl rfl (by decide +kernel) (by decide +kernel) ?_
  refine Go_iast0 rfl rfl (by decide +kernel) ?_
  refine Go_inc (v := 44) rfl rfl (by decide +kernel) ?_
  refine Go_st rfl rfl ?_
  refine Go_st rfl rfl ?_
  refine Go_st rfl rfl ?_
  refine Go_st rfl rfl ?_
  refine Go_ifF (by decide +kernel) ?_
  refine Go_st rfl rfl ?_
  refine Go_st rfl rfl ?_
  refine Go_st rfl rfl ?_
  refine Go_bin (v := 60) rfl (by decide +kernel) ?_
  refine Go_st rfl rfl ?_
  refine Go_bin (v := 104) rfl (by decide +kernel) ?_
  refine Go_st rfl rfl ?_
  refine Go_st rfl rfl ?_
  refine Go_st rfl rfl ?_
  refine Go_bin (v := 0) rfl (by decide +kernel) ?_
  refine Go_st rfl rfl ?_
  refine Go_bin (v := 44) rfl (by decide +kernel) ?_
  refine Go_iald (v := 0) rfl rfl (by decide +kernel) (by decide +kernel) ?_
  refine Go_iast0 rfl rfl (by decide +kernel) ?_
  refine Go_inc (v := 45) rfl rfl (by decide +kernel) ?_
  refine Go_st rfl rfl ?_
  refine Go_st rfl rfl ?_
  refine Go_st rfl rfl ?_
  refine Go_st rfl rfl ?_
  refine Go_ifF (by decide +kernel) ?_
  refine Go_st rfl rfl ?_
  refine Go_st rfl rfl ?_
  refine Go_st rfl rfl ?_
  refine Go_bin (v := 60) rfl (by decide +kernel) ?_
  refine Go_st rfl rfl ?_
  refine Go_bin (v := 105) rfl (by decide +kernel) ?_
  refine Go_st rfl rfl ?_
  refine Go_st rfl rfl ?_
  refine Go_st rfl rfl ?_
  refine Go_bin (v := 0) rfl (by decide +kernel) ?_
  refine Go_st rfl rfl ?_
  refine Go_bin (v := 45) rfl (by decide +kernel) ?_
  refine Go_iald (v := 0) rfl rfl (by decide +kernel) (by decide +kernel) ?_
  refine Go_iast0 rfl rfl (by decide +kernel) ?_
  refine Go_inc (v := 46) rfl rfl (by decide +kernel) ?_
  refine Go_st rfl rfl ?_
  refine Go_st rfl rfl ?_
  refine Go_st rfl rfl ?_
  refine Go_st rfl rfl ?_
  refine Go_ifF (by decide +kernel) ?_
  refine Go_st rfl rfl ?_
  refine Go_st rfl rfl ?_
  refine Go_st rfl rfl ?_
  refine Go_bin (v := 60) rfl (by decide +kernel) ?_
  refine Go_st rfl rfl ?_
  refine Go_bin (v := 106) rfl (by decide +kernel) ?_
  refine Go_st rfl rfl ?_
  refine Go_st rfl rfl ?_
  refine Go_st rfl rfl ?_
  refine Go_bin (v := 0) rfl (by decide +kernel) ?_
  refine Go_st rfl rfl ?_
  refine Go_bin (v := 46) rfl (by decide +kernel) ?_
  refine Go_iald (v := 0) rfl rfl (by decide +kernel) (by decide +kernel) ?_
  refine Go_iast0 rfl rfl (by decide +kernel) ?_
  refine Go_inc (v := 47) rfl rfl (by decide +kernel) ?_
  refine Go_st rfl rfl ?_
  refine Go_st rfl rfl ?_
  refine Go_st rfl rfl ?_
  refine Go_st rfl rfl ?_
  refine Go_ifF (by decide +kernel) ?_
  refine Go_st rfl rfl ?_
  refine Go_st rfl rfl ?_
  refine Go_st rfl rfl ?_
  refine Go_bin (v := 60) rfl (by decide +kernel) ?_
  refine Go_st rfl rfl ?_
  refine Go_bin (v := 107) rfl (by decide +kernel) ?_
  refine Go_st rfl rfl ?_
  refine Go_st rfl rfl ?_
  refine Go_st rfl rfl ?_
  refine Go_bin (v := 0) rfl (by decide +kernel) ?_
  refine Go_st rfl rfl ?_
  refine Go_bin (v := 47) rfl (by decide +kernel) ?_
  refine Go_iald (v := 0) rfl rfl (by decide +kernel) (by decide +kernel) ?_
  refine Go_iast0 rfl rfl (by decide +kernel) ?_
  refine Go_inc (v := 48) rfl rfl (by decide +kernel) ?_
  refine Go_st rfl rfl ?_
  refine Go_st rfl rfl ?_
  refine Go_st rfl rfl ?_
  refine Go_st rfl rfl ?_
  refine Go_ifF (by decide +kernel) ?_
  refine Go_st rfl rfl ?_
  refine Go_st rfl rfl ?_
  refine Go_st rfl rfl ?_
  refine Go_bin (v := 60) rfl (by decide +kernel) ?_
  refine Go_st rfl rfl ?_
  refine Go_bin (v := 108) rfl (by decide +kernel) ?_
  refine Go_st rfl rfl ?_
  refine Go_st rfl rfl ?_
  refine Go_st rfl rfl ?_
  refine Go_bin (v := 0) rfl (by decide +kernel) ?_
  refine Go_st rfl rfl ?_
  refine Go_bin (v := 48) rfl (by decide +kernel) ?_
  refine Go_iald (v := 0) rfl rfl (by decide +kernel) (by decide +kernel) ?_
  refine Go_iast0 rfl rfl (by decide +kernel) ?_
  refine Go_inc (v := 49) rfl rfl (by decide +kernel) ?_
  refine Go_st rfl rfl ?_
  refine Go_st rfl rfl ?_
  refine Go_st rfl rfl ?_
  refine Go_st rfl rfl ?_
  refine Go_ifF (by decide +kernel) ?_
  refine Go_st rfl rfl ?_
  refine Go_st rfl rfl ?_
  refine Go_st rfl rfl ?_
  refine Go_bin (v := 60) rfl (by decide +kernel) ?_
  refine Go_st rfl rfl ?_
  refine Go_bin (v := 109) rfl (by decide +kernel) ?_
  refine Go_st rfl rfl ?_
  refine Go_st rfl rfl ?_
  refine Go_st rfl rfl ?_
  refine Go_bin (v := 0) rfl (by decide +kernel) ?_
  refine Go_st rfl rfl ?_
  refine Go_bin (v := 49) rfl (by decide +kernel) ?_
  refine Go_iald (v := 0) rfl rfl (by decide +kernel) (by decide +kernel) ?_
  refine Go_iast0 rfl rfl (by decide +kernel) ?_
  refine Go_inc (v := 50) rfl rfl (by decide +kernel) ?_
  refine Go_st rfl rfl ?_
  refine Go_st rfl rfl ?_
  refine Go_st rfl rfl ?_
  refine Go_st rfl rfl ?_
  refine Go_ifF (by decide +kernel) ?_
  refine Go_st rfl rfl ?_
  refine Go_st rfl rfl ?_
  refine Go_st rfl rfl ?_
  refine Go_bin (v := 60) rfl (by decide +kernel) ?_
  refine Go_st rfl rfl ?_
  refine Go_bin (v := 110) rfl (by decide +kernel) ?_
  refine Go_st rfl rfl ?_
  refine Go_st rfl rfl ?_
  refine Go_st rfl rfl ?_
  refine Go_bin (v := 0) rfl (by decide +kernel) ?_
  refine Go_st rfl rfl ?_
  refine Go_bin (v := 50) rfl (by decide +kernel) ?_
  refine Go_iald (v := 0) rfl rfl (by decide +kernel) (by decide +kernel) ?_
  refine Go_iast0 rfl rfl (by decide +kernel) ?_
  refine Go_inc (v := 51) rfl rfl (by decide +kernel) ?_
  refine Go_st rfl rfl ?_
  refine Go_st rfl rfl ?_
  refine Go_st rfl rfl ?_
  refine Go_st rfl rfl ?_
  refine Go_ifF (by decide +kernel) ?_
  refine Go_st rfl rfl ?_
  refine Go_st rfl rfl ?_
  refine Go_st rfl rfl ?_
  refine Go_bin (v := 60) rfl (by decide +kernel) ?_
  refine Go_st rfl rfl ?_
  refine Go_bin (v := 111) rfl (by decide +kernel) ?_
  refine Go_st rfl rfl ?_
  refine Go_st rfl rfl ?_
  refine Go_st rfl rfl ?_
  refine Go_bin (v := 0) rfl (by decide +kernel) ?_
  refine Go_st rfl rfl ?_
  refine Go_bin (v := 51) rfl (by decide +kernel) ?_
  refine Go_iald (v := 0) rfl rfl (by decide +kernel) (by decide +kernel) ?_
  refine Go_iast0 rfl rfl (by decide +kernel) ?_
  refine Go_inc (v := 52) rfl rfl (by decide +kernel) ?_
  refine Go_st rfl rfl ?_
  refine Go_st rfl rfl ?_
  refine Go_st rfl rfl ?_
  refine Go_st rfl rfl ?_
  refine Go_ifF (by decide +kernel) ?_
  refine Go_st rfl rfl ?_
  refine Go_st rfl rfl ?_
  refine Go_st rfl rfl ?_
  refine Go_bin (v := 60) rfl (by decide +kernel) ?_
  refine Go_st rfl rfl ?_
  refine Go_bin (v := 112) rfl (by decide +kernel) ?_
  refine Go_st rfl rfl ?_
  refine Go_st rfl rfl ?_
  refine Go_st rfl rfl ?_
  refine Go_bin (v := 0) rfl (by decide +kernel) ?_
  refine Go_st rfl rfl ?_
  refine Go_bin (v := 52) rfl (by decide +kernel) ?_
  refine Go_iald (v := 0) rfl rfl (by decide +kernel) (by decide +kernel) ?_
  refine Go_iast0 rfl rfl (by decide +kernel) ?_
  refine Go_inc (v := 53) rfl rfl (by decide +kernel) ?_
  refine Go_st rfl rfl ?_
  refine Go_st rfl rfl ?_
  refine Go_st rfl rfl ?_
  refine Go_st rfl rfl ?_
  refine Go_ifF (by decide +kernel) ?_
  refine Go_st rfl rfl ?_
  refine Go_st rfl rfl ?_
  refine Go_st rfl rfl ?_
  refine Go_bin (v := 60) rfl (by decide +kernel) ?_
  refine Go_st rfl rfl ?_
  refine Go_bin (v := 113) rfl (by decide +kernel) ?_
  refine Go_st rfl rfl ?_
  refine Go_st rfl rfl ?_
  refine Go_st rfl rfl ?_
  refine Go_bin (v := 0) rfl (by decide +kernel) ?_
  refine Go_st rfl rfl ?_
  refine Go_bin (v := 53) rfl (by decide +kernel) ?_
  refine Go_iald (v := 0) rfl rfl (by decide +kernel) (by decide +kernel) ?_
  refine Go_iast0 rfl rfl (by decide +kernel) ?_
  refine Go_inc (v := 54) rfl rfl (by decide +kernel) ?_
  refine Go_st rfl rfl ?_
  refine Go_st rfl rfl ?_
  refine Go_st rfl rfl ?_
  refine Go_st rfl rfl ?_
  refine Go_ifF (by decide +kernel) ?_
  refine Go_st rfl rfl ?_
  refine Go_st rfl rfl ?_
  refine Go_st rfl rfl ?_
  refine Go_bin (v := 60) rfl (by decide +kernel) ?_
  refine Go_st rfl rfl ?_
  refine Go_bin (v := 114) rfl (by decide +kernel) ?_
  refine Go_st rfl rfl ?_
  refine Go_st rfl rfl ?_
  refine Go_st rfl rfl ?_
  refine Go_bin (v := 0) rfl (by decide +kernel) ?_
  refine Go_st rfl rfl ?_
  refine Go_bin (v := 54) rfl (by decide +kernel) ?_
  refine Go_iald (v := 0) rfl rfl (by decide +kernel) (by decide +kernel) ?_
  refine Go_iast0 rfl rfl (by decide +kernel) ?_
  refine Go_inc (v := 55) rfl rfl (by decide +kernel) ?_
  refine Go_st rfl rfl ?_
  refine Go_st rfl rfl ?_
  refine Go_st rfl rfl ?_
  refine Go_st rfl rfl ?_
  refine Go_ifF (by decide +kernel) ?_
  refine Go_st rfl rfl ?_
  refine Go_st rfl rfl ?_
  refine Go_st rfl rfl ?_
  refine Go_bin (v := 60) rfl (by decide +kernel) ?_
  refine Go_st rfl rfl ?_
  refine Go_bin (v := 115) rfl (by decide +kernel) ?_
  refine Go_st rfl rfl ?_
  refine Go_st rfl rfl ?_
  refine Go_st rfl rfl ?_
  refine Go_bin (v := 0) rfl (by decide +kernel) ?_
  refine Go_st rfl rfl ?_
  refine Go_bin (v := 55) rfl (by decide +kernel) ?_
  refine Go_iald (v := 0) rfl rfl (by decide +kernel) (by decide +kernel) ?_
  refine Go_iast0 rfl rfl (by decide +kernel) ?_
  refine Go_inc (v := 56) rfl rfl (by decide +kernel) ?_
  refine Go_st rfl rfl ?_
  refine Go_st rfl rfl ?_
  refine Go_st rfl rfl ?_
  refine Go_st rfl rfl ?_
  refine Go_ifF (by decide +kernel) ?_
  refine Go_st rfl rfl ?_
  refine Go_st rfl rfl ?_
  refine Go_st rfl rfl ?_
  refine Go_bin (v := 60) rfl (by decide +kernel) ?_
  refine Go_st rfl rfl ?_
  refine Go_bin (v := 116) rfl (by decide +kernel) ?_
  refine Go_st rfl rfl ?_
  refine Go_st rfl rfl ?_
  refine Go_st rfl rfl ?_
  refine Go_bin (v := 0) rfl (by decide +kernel) ?_
  refine Go_st rfl rfl ?_
  refine Go_bin (v := 56) rfl (by decide +kernel) ?_
  refine Go_iald (v := 0) rfl rfl (by decide +kernel) (by decide +kernel) ?_
  refine Go_iast0 rfl rfl (by decide +kernel) ?_
  refine Go_inc (v := 57) rfl rfl (by decide +kernel) ?_
  refine Go_st rfl rfl ?_
  refine Go_st rfl rfl ?_
  refine Go_st rfl rfl ?_
  refine Go_st rfl rfl ?_
  refine Go_ifF (by decide +kernel) ?_
  refine Go_st rfl rfl ?_
  refine Go_st rfl rfl ?_
  refine Go_st rfl rfl ?_
  refine Go_bin (v := 60) rfl (by decide +kernel) ?_
  refine Go_st rfl rfl ?_
  refine Go_bin (v := 117) rfl (by decide +kernel) ?_
  refine Go_st rfl rfl ?_
  refine Go_st rfl rfl ?_
  refine Go_st rfl rfl ?_
  refine Go_bin (v := 0) rfl (by decide +kernel) ?_
  refine Go_st rfl rfl ?_
  refine Go_bin (v := 57) rfl (by decide +kernel) ?_
  refine Go_iald (v := 0) rfl rfl (by decide +kernel) (by decide +kernel) ?_
  refine Go_iast0 rfl rfl (by decide +kernel) ?_
  refine Go_inc (v := 58) rfl rfl (by decide +kernel) ?_
  refine Go_st rfl rfl ?_
  refine Go_st rfl rfl ?_
  refine Go_st rfl rfl ?_
  refine Go_st rfl rfl ?_
  refine Go_ifF (by decide +kernel) ?_
  refine Go_st rfl rfl ?_
  refine Go_st rfl rfl ?_
  refine Go_st rfl rfl ?_
  refine Go_bin (v := 60) rfl (by decide +kernel) ?_
  refine Go_st rfl rfl ?_
  refine Go_bin (v := 118) rfl (by decide +kernel) ?_
  refine Go_st rfl rfl ?_
  refine Go_st rfl rfl ?_
  refine Go_st rfl rfl ?_
  refine Go_bin (v := 0) rfl (by decide +kernel) ?_
  refine Go_st rfl rfl ?_
  refine Go_bin (v := 58) rfl (by decide +kernel) ?_
  refine Go_iald (v := 0) rfl rfl (by decide +kernel) (by decide +kernel) ?_
  refine Go_iast0 rfl rfl (by decide +kernel) ?_
  refine Go_inc (v := 59) rfl rfl (by decide +kernel) ?_
  refine Go_st rfl rfl ?_
  refine Go_st rfl rfl ?_
  refine Go_st rfl rfl ?_
  refine Go_st rfl rfl ?_
  refine Go_ifF (by decide +kernel) ?_
  refine Go_st rfl rfl ?_
  refine Go_st rfl rfl ?_
  refine Go_st rfl rfl ?_
  refine Go_bin (v := 60) rfl (by decide +kernel) ?_
  refine Go_st rfl rfl ?_
  refine Go_bin (v := 119) rfl (by decide +kernel) ?_
  refine Go_st rfl rfl ?_
  refine Go_st rfl rfl ?_
  refine Go_st rfl rfl ?_
  refine Go_bin (v := 0) rfl (by decide +kernel) ?_
  refine Go_st rfl rfl ?_
  refine Go_bin (v := 59) rfl (by decide +kernel) ?_
  refine Go_iald (v := 0) rfl rfl (by decide +kernel) (by decide +kernel) ?_
  refine Go_iast0 rfl rfl (by decide +kernel) ?_
  refine Go_inc (v := 60) rfl rfl (by decide +kernel) ?_
  refine Go_st rfl rfl ?_
  refine Go_st rfl rfl ?_
  refine Go_st rfl rfl ?_
  refine Go_st rfl rfl ?_
  refine Go_ifT (by decide +kernel) ?_
  exact Go_ret rfl ⟨rfl, rfl⟩
set_option maxRecDepth 20000 in
set_option maxHeartbeats 4000000 in
theorem rm_X9_copyStreet_0_1 (c : Nat → pm_E) (d : Nat)  : pm_Rt pm_P (d + 2) 133 (hpm c) [.ref 77, .int 0, .int 1] (hpm c) none := by
  refine Rt_of aiX9_copyStreet (Nat.le_of_ble_eq_true rfl) ?_
  refine Go_st rfl rfl ?_
  refine Go_st rfl rfl ?_
  refine Go_st rfl rfl ?_
  refine Go_st rfl rfl ?_
  refine Go_st rfl rfl ?_
  refine Go_call rfl (rm_X9_copyRow_1_0_1 c d) (chkS rfl rfl rfl rfl) ?_
  refine Go_st rfl rfl ?_
  refine Go_st rfl rfl ?_
  refine Go_st rfl rfl ?_
  refine Go_st rfl rfl ?_
  refine Go_st rfl rfl ?_
  refine Go_call rfl (rm_X9_copyRow_6_0_1 c d) (chkS rfl rfl rfl rfl) ?_
  refine Go_st rfl rfl ?_
  refine Go_st rfl rfl ?_
  refine Go_st rfl rfl ?_
  refine Go_st rfl rfl ?_
  refine Go_st rfl rfl ?_
  refine Go_call rfl (rm_X9_copyRow_16_0_1 c d) (chkS rfl rfl rfl rfl) ?_
  refine Go_st rfl rfl ?_
  refine Go_st rfl rfl ?_
  refine Go_st rfl rfl ?_
  refine Go_st rfl rfl ?_
  refine Go_st rfl rfl ?_
  refine Go_call rfl (rm_X9_copyRow_16_0_1 c d) (chkS rfl rfl rfl rfl) ?_
  refine Go_st rfl rfl ?_
  refine Go_st rfl rfl ?_
  refine Go_st rfl rfl ?_
  refine Go_st rfl rfl ?_
  refine Go_st rfl rfl ?_
  refine Go_call rfl (rm_X9_copyRow_60_0_1 c d) (chkS rfl rfl rfl rfl) ?_
  exact Go_ret rfl ⟨rfl, rfl⟩
set_option maxRecDepth 20000 in
set_option maxHeartbeats 4000000 in
theorem rm_X9_copyRow_1_0_2 (c : Nat → pm_E) (d : Nat)  : pm_Rt pm_P (d + 1) 132 (hpm c) [.ref 83, .int 1, .int 0, .int 2] (hpm c) none := by
  refine Rt_of aiX9_copyRow (Nat.le_of_ble_eq_true rfl) ?_
  refine Go_st rfl rfl ?_
  refine Go_st rfl rfl ?_
  refine Go_st rfl rfl ?_
  refine Go_st rfl rfl ?_
  refine Go_st rfl rfl ?_
  refine Go_ifF (by decide +kernel) ?_
  refine Go_st rfl rfl ?_
  refine Go_st rfl rfl ?_
  refine Go_st rfl rfl ?_
  refine Go_bin (v := 2) rfl (by decide +kernel) ?_
  refine Go_st rfl rfl ?_
  refine Go_bin (v := 2) rfl (by decide +kernel) ?_
  refine Go_st rfl rfl ?_
  refine Go_st rfl rfl ?_
  refine Go_st rfl rfl ?_
  refine Go_bin (v := 0) rfl (by decide +kernel) ?_
  refine Go_st rfl rfl ?_
  refine Go_bin (v := 0) rfl (by decide +kernel) ?_
  refine Go_iald (v := 0) rfl rfl (by decide +kernel) (by decide +kernel) ?_
  refine Go_iast0 rfl rfl (by decide +kernel) ?_
  refine Go_inc (v := 1) rfl rfl (by decide +kernel) ?_
  refine Go_st rfl rfl ?_
  refine Go_st rfl rfl ?_
  refine Go_st rfl rfl ?_
  refine Go_st rfl rfl ?_
  refine Go_ifT (by decide +kernel) ?_
  exact Go_ret rfl ⟨rfl, rfl⟩
set_option maxRecDepth 20000 in
set_option maxHeartbeats 4000000 in
theorem rm_X9_copyRow_6_0_2 (c : Nat → pm_E) (d : Nat)  : pm_Rt pm_P (d + 1) 132 (hpm c) [.ref 84, .int 6, .int 0, .int 2] (hpm c) none := by
  refine Rt_of aiX9_copyRow (Nat.le_of_ble_eq_true rfl) ?_
  refine Go_st rfl rfl ?_
  refine Go_st rfl rfl ?_
  refine Go_st rfl rfl ?_
  refine Go_st rfl rfl ?_
  refine Go_st rfl rfl ?_
  refine Go_ifF (by decide +kernel) ?_
  refine Go_st rfl rfl ?_
  refine Go_st rfl rfl ?_
  refine Go_st rfl rfl ?_
  refine Go_bin (v := 12) rfl (by decide +kernel) ?_
  refine Go_st rfl rfl ?_
  refine Go_bin (v := 12) rfl (by decide +kernel) ?_
  refine Go_st rfl rfl ?_
  refine Go_st rfl rfl ?_
  refine Go_st rfl rfl ?_
  refine Go_bin (v := 0) rfl (by decide +kernel) ?_
  refine Go_st rfl rfl ?_
  refine Go_bin (v := 0) rfl (by decide +kernel) ?_
  refine Go_iald (v := 0) rfl rfl (by decide +kernel) (by decide +kernel) ?_
  refine Go_iast0 rfl rfl (by decide +kernel) ?_
  refine Go_inc (v := 1) rfl rfl (by decide +kernel) ?_
  refine Go_st rfl rfl ?_
  refine Go_st rfl rfl ?_
  refine Go_st rfl rfl ?_
  refine Go_st rfl rfl ?_
  refine Go_ifF (by decide +kernel) ?_
  refine Go_st rfl rfl ?_
  refine Go_st rfl rfl ?_
  refine Go_st rfl rfl ?_
  refine Go_bin (v := 12) rfl (by decide +kernel) ?_
  refine Go_st rfl rfl ?_
  refine Go_bin (v := 13) rfl (by decide +kernel) ?_
  refine Go_st rfl rfl ?_
  refine Go_st rfl rfl ?_
  refine Go_st rfl rfl ?_
  refine Go_bin (v := 0) rfl (by decide +kernel) ?_
  refine Go_st rfl rfl ?_
  refine Go_bin (v := 1) rfl (by decide +kernel) ?_
  refine Go_iald (v := 0) rfl rfl (by decide +kernel) (by decide +kernel) ?_
  refine Go_iast0 rfl rfl (by decide +kernel) ?_
  refine Go_inc (v := 2) rfl rfl (by decide +kernel) ?_
  refine Go_st rfl rfl ?_
  refine Go_st rfl rfl ?_
  refine Go_st rfl rfl ?_
  refine Go_st rfl rfl ?_
  refine Go_ifF (by decide +kernel) ?_
  refine Go_st rfl rfl ?_
  refine Go_st rfl rfl ?_
  refine Go_st rfl rfl ?_
  refine Go_bin (v := 12) rfl (by decide +kernel) ?_
  refine Go_st rfl rfl ?_
  refine Go_bin (v := 14) rfl (by decide +kernel) ?_
  refine Go_st rfl rfl ?_
  refine Go_st rfl rfl ?_
  refine Go_st rfl rfl ?_
  refine Go_bin (v := 0) rfl (by decide +kernel) ?_
  refine Go_st rfl rfl ?_
  refine Go_bin (v := 2) rfl (by decide +kernel) ?_
  refine Go_iald (v := 0) rfl rfl (by decide +kernel) (by decide +kernel) ?_
  refine Go_iast0 rfl rfl (by decide +kernel) ?_
  refine Go_inc (v := 3) rfl rfl (by decide +kernel) ?_
  refine Go_st rfl rfl ?_
  refine Go_st rfl rfl ?_
  refine Go_st rfl rfl ?_
  refine Go_st rfl rfl ?_
  refine Go_ifF (by decide +kernel) ?_
  refine Go_st rfl rfl ?_
  refine Go_st rfl rfl ?_
  refine Go_st rfl rfl ?_
  refine Go_bin (v := 12) rfl (by decide +kernel) ?_
  refine Go_st rfl rfl ?_
  refine Go_bin (v := 15) rfl (by decide +kernel) ?_
  refine Go_st rfl rfl ?_
  refine Go_st rfl rfl ?_
  refine Go_st rfl rfl ?_
  refine Go_bin (v := 0) rfl (by decide +kernel) ?_
  refine Go_st rfl rfl ?_
  refine Go_bin (v := 3) rfl (by decide +kernel) ?_
  refine Go_iald (v := 0) rfl rfl (by decide +kernel) (by decide +kernel) ?_
  refine Go_iast0 rfl rfl (by decide +kernel) ?_
  refine Go_inc (v := 4) rfl rfl (by decide +kernel) ?_
  refine Go_st rfl rfl ?_
  refine Go_st rfl rfl ?_
  refine Go_st rfl rfl ?_
  refine Go_st rfl rfl ?_
  refine Go_ifF (by decide +kernel) ?_
  refine Go_st rfl rfl ?_
  refine Go_st rfl rfl ?_
  refine Go_st rfl rfl ?_
  refine Go_bin (v := 12) rfl (by decide +kernel) ?_
  refine Go_st rfl rfl ?_
  refine Go_bin (v := 16) rfl (by decide +kernel) ?_
  refine Go_st rfl rfl ?_
  refine Go_st rfl rfl ?_
  refine Go_st rfl rfl ?_
  refine Go_bin (v := 0) rfl (by decide +kernel) ?_
  refine Go_st rfl rfl ?_
  refine Go_bin (v := 4) rfl (by decide +kernel) ?_
  refine Go_iald (v := 0) rfl rfl (by decide +kernel) (by decide +kernel) ?_
  refine Go_iast0 rfl rfl (by decide +kernel) ?_
  refine Go_inc (v := 5) rfl rfl (by decide +kernel) ?_
  refine Go_st rfl rfl ?_
  refine Go_st rfl rfl ?_
  refine Go_st rfl rfl ?_
  refine Go_st rfl rfl ?_
  refine Go_ifF (by decide +kernel) ?_
  refine Go_st rfl rfl ?_
  refine Go_st rfl rfl ?_
  refine Go_st rfl rfl ?_
  refine Go_bin (v := 12) rfl (by decide +kernel) ?_
  refine Go_st rfl rfl ?_
  refine Go_bin (v := 17) rfl (by decide +kernel) ?_
  refine Go_st rfl rfl ?_
  refine Go_st rfl rfl ?_
  refine Go_st rfl rfl ?_
  refine Go_bin (v := 0) rfl (by decide +kernel) ?_
  refine Go_st rfl rfl ?_
  refine Go_bin (v := 5) rfl (by decide +kernel) ?_
  refine Go_iald (v := 0) rfl rfl (by decide +kernel) (by decide +kernel) ?_
  refine Go_iast0 rfl rfl (by decide +kernel) ?_
  refine Go_inc (v := 6) rfl rfl (by decide +kernel) ?_
  refine Go_st rfl rfl ?_
  refine Go_st rfl rfl ?_
  refine Go_st rfl rfl ?_
  refine Go_st rfl rfl ?_
  refine Go_ifT (by decide +kernel) ?_
  exact Go_ret rfl ⟨rfl, rfl⟩
set_option maxRecDepth 20000 in
set_option maxHeartbeats 4000000 in
theorem rm_X9_copyRow_16_0_2 (c : Nat → pm_E) (d : Nat)  : pm_Rt pm_P (d + 1) 132 (hpm c) [.ref 85, .int 16, .int 0, .int 2] (hpm c) none := by
  refine Rt_of aiX9_copyRow (Nat.le_of_ble_eq_true rfl) ?_
  refine Go_st rfl rfl ?_
  refine Go_st rfl rfl ?_
  refine Go_st rfl rfl ?_
  refine Go_st rfl rfl ?_
  refine Go_st rfl rfl ?_
  refine Go_ifF (by decide +kernel) ?_
  refine Go_st rfl rfl ?_
  refine Go_st rfl rfl ?_
  refine Go_st rfl rfl ?_
  refine Go_bin (v := 32) rfl (by decide +kernel) ?_
  refine Go_st rfl rfl ?_
  refine Go_bin (v := 32) rfl (by decide +kernel) ?_
  refine Go_st rfl rfl ?_
  refine Go_st rfl rfl ?_
  refine Go_st rfl rfl ?_
  refine Go_bin (v := 0) rfl (by decide +kernel) ?_
  refine Go_st rfl rfl ?_
  refine Go_bin (v := 0) rfl (by decide +kernel) ?_
  refine Go_iald (v := 0) rfl rfl (by decide +kernel) (by decide +kernel) ?_
  refine Go_iast0 rfl rfl (by decide +kernel) ?_
  refine Go_inc (v := 1) rfl rfl (by decide +kernel) ?_
  refine Go_st rfl rfl ?_
  refine Go_st rfl rfl ?_
  refine Go_st rfl rfl ?_
  refine Go_st rfl rfl ?_
  refine Go_ifF (by decide +kernel) ?_
  refine Go_st rfl rfl ?_
  refine Go_st rfl rfl ?_
  refine Go_st rfl rfl ?_
  refine Go_bin (v := 32) rfl (by decide +kernel) ?_
  refine Go_st rfl rfl ?_
  refine Go_bin (v := 33) rfl (by decide +kernel) ?_
  refine Go_st rfl rfl ?_
  refine Go_st rfl rfl ?_
  refine Go_st rfl rfl ?_
  refine Go_bin (v := 0) rfl (by decide +kernel) ?_
  refine Go_st rfl rfl ?_
  refine Go_bin (v := 1) rfl (by decide +kernel) ?_
  refine Go_iald (v := 0) rfl rfl (by decide +kernel) (by decide +kernel) ?_
  refine Go_iast0 rfl rfl (by decide +kernel) ?_
  refine Go_inc (v := 2) rfl rfl (by decide +kernel) ?_
  refine Go_st rfl rfl ?_
  refine Go_st rfl rfl ?_
  refine Go_st rfl rfl ?_
  refine Go_st rfl rfl ?_
  refine Go_ifF (by decide +kernel) ?_
  refine Go_st rfl rfl ?_
  refine Go_st rfl rfl ?_
  refine Go_st rfl rfl ?_
  refine Go_bin (v := 32) rfl (by decide +kernel) ?_
  refine Go_st rfl rfl ?_
  refine Go_bin (v := 34) rfl (by decide +kernel) ?_
  refine Go_st rfl rfl ?_
  refine Go_st rfl rfl ?_
  refine Go_st rfl rfl ?_
  refine Go_bin (v := 0) rfl (by decide +kernel) ?_
  refine Go_st rfl rfl ?_
  refine Go_bin (v := 2) rfl (by decide +kernel) ?_
  refine Go_iald (v := 0) rfl rfl (by decide +kernel) (by decide +kernel) ?_
  refine Go_iast0 rfl rfl (by decide +kernel) ?_
  refine Go_inc (v := 3) rfl rfl (by decide +kernel) ?_
  refine Go_st rfl rfl ?_
  refine Go_st rfl rfl ?_
  refine Go_st rfl rfl ?_
  refine Go_st rfl rfl ?_
  refine Go_ifF (by decide +kernel) ?_
  refine Go_st rfl rfl ?_
  refine Go_st rfl rfl ?_
  refine Go_st rfl rfl ?_
  refine Go_bin (v := 32) rfl (by decide +kernel) ?_
  refine Go_st rfl rfl ?_
  refine Go_bin (v := 35) rfl (by decide +kernel) ?_
  refine Go_st rfl rfl ?_
  refine Go_st rfl rfl ?_
  refine Go_st rfl rfl ?_
  refine Go_bin (v := 0) rfl (by decide +kernel) ?_
  refine Go_st rfl rfl ?_
  refine Go_bin (v := 3) rfl (by decide +kernel) ?_
  refine Go_iald (v := 0) rfl rfl (by decide +kernel) (by decide +kernel) ?_
  refine Go_iast0 rfl rfl (by decide +kernel) ?_
  refine Go_inc (v := 4) rfl rfl (by decide +kernel) ?_
  refine Go_st rfl rfl ?_
  refine Go_st rfl rfl ?_
  refine Go_st rfl rfl ?_
  refine Go_st rfl rfl ?_
  refine Go_ifF (by decide +kernel) ?_
  refine Go_st rfl rfl ?_
  refine Go_st rfl rfl ?_
  refine Go_st rfl rfl ?_
  refine Go_bin (v := 32) rfl (by decide +kernel) ?_
  refine Go_st rfl rfl ?_
  refine Go_bin (v := 36) rfl (by decide +kernel) ?_
  refine Go_st rfl rfl ?_
  refine Go_st rfl rfl ?_
  refine Go_st rfl rfl ?_
  refine Go_bin (v := 0) rfl (by decide +kernel) ?_
  refine Go_st rfl rfl ?_
  refine Go_bin (v := 4) rfl (by decide +kernel) ?_
  refine Go_iald (v := 0) rfl rfl (by decide +kernel) (by decide +kernel) ?_
  refine Go_iast0 rfl rfl (by decide +kernel) ?_
  refine Go_inc (v := 5) rfl rfl (by decide +kernel) ?_
  refine Go_st rfl rfl ?_
  refine Go_st rfl rfl ?_
  refine Go_st rfl rfl ?_
  refine Go_st rfl rfl ?_
  refine Go_ifF (by decide +kernel) ?_
  refine Go_st rfl rfl ?_
  refine Go_st rfl rfl ?_
  refine Go_st rfl rfl ?_
  refine Go_bin (v := 32) rfl (by decide +kernel) ?_
  refine Go_st rfl rfl ?_
  refine Go_bin (v := 37) rfl (by decide +kernel) ?_
  refine Go_st rfl rfl ?_
  refine Go_st rfl rfl ?_
  refine Go_st rfl rfl ?_
  refine Go_bin (v := 0) rfl (by decide +kernel) ?_
  refine Go_st rfl rfl ?_
  refine Go_bin (v := 5) rfl (by decide +kernel) ?_
  refine Go_iald (v := 0) rfl rfl (by decide +kernel) (by decide +kernel) ?_
  refine Go_iast0 rfl rfl (by decide +kernel) ?_
  refine Go_inc (v := 6) rfl rfl (by decide +kernel) ?_
  refine Go_st rfl rfl ?_
  refine Go_st rfl rfl ?_
  refine Go_st rfl rfl ?_
  refine Go_st rfl rfl ?_
  refine Go_ifF (by decide +kernel) ?_
  refine Go_st rfl rfl ?_
  refine Go_st rfl rfl ?_
  refine Go_st rfl rfl ?_
  refine Go_bin (v := 32) rfl (by decide +kernel) ?_
  refine Go_st rfl rfl ?_
  refine Go_bin (v := 38) rfl (by decide +kernel) ?_
  refine Go_st rfl rfl ?_
  refine Go_st rfl rfl ?_
  refine Go_st rfl rfl ?_
  refine Go_bin (v := 0) rfl (by decide +kernel) ?_
  refine Go_st rfl rfl ?_
  refine Go_bin (v := 6) rfl (by decide +kernel) ?_
  refine Go_iald (v := 0) rfl rfl (by decide +kernel) (by decide +kernel) ?_
  refine Go_iast0 rfl rfl (by decide +kernel) ?_
  refine Go_inc (v := 7) rfl rfl (by decide +kernel) ?_
  refine Go_st rfl rfl ?_
  refine Go_st rfl rfl ?_
  refine Go_st rfl rfl ?_
  refine Go_st rfl rfl ?_
  refine Go_ifF (by decide +kernel) ?_
  refine Go_st rfl rfl ?_
  refine Go_st rfl rfl ?_
  refine Go_st rfl rfl ?_
  refine Go_bin (v := 32) rfl (by decide +kernel) ?_
  refine Go_st rfl rfl ?_
  refine Go_bin (v := 39) rfl (by decide +kernel) ?_
  refine Go_st rfl rfl ?_
  refine Go_st rfl rfl ?_
  refine Go_st rfl rfl ?_
  refine Go_bin (v := 0) rfl (by decide +kernel) ?_
  refine Go_st rfl rfl ?_
  refine Go_bin (v := 7) rfl (by decide +kernel) ?_
  refine Go_iald (v := 0) rfl rfl (by decide +kernel) (by decide +kernel) ?_
  refine Go_iast0 rfl rfl (by decide +kernel) ?_
  refine Go_inc (v := 8) rfl rfl (by decide +kernel) ?_
  refine Go_st rfl rfl ?_
  refine Go_st rfl rfl ?_
  refine Go_st rfl rfl ?_
  refine Go_st rfl rfl ?_
  refine Go_ifF (by decide +kernel) ?_
  refine Go_st rfl rfl ?_
  refine Go_st rfl rfl ?_
  refine Go_st rfl rfl ?_
  refine Go_bin (v := 32) rfl (by decide +kernel) ?_
  refine Go_st rfl rfl ?_
  refine Go_bin (v := 40) rfl (by decide +kernel) ?_
  refine Go_st rfl rfl ?_
  refine Go_st rfl rfl ?_
  refine Go_st rfl rfl ?_
  refine Go_bin (v := 0) rfl (by decide +kernel) ?_
  refine Go_st rfl rfl ?_
  refine Go_bin (v := 8) rfl (by decide +kernel) ?_
  refine Go_iald (v := 0) rfl rfl (by decide +kernel) (by decide +kernel) ?_
  refine Go_iast0 rfl rfl (by decide +kernel) ?_
  refine Go_inc (v := 9) rfl rfl (by decide +kernel) ?_
  refine Go_st rfl rfl ?_
  refine Go_st rfl rfl ?_
  refine Go_st rfl rfl ?_
  refine Go_st rfl rfl ?_
  refine Go_ifF (by decide +kernel) ?_
  refine Go_st rfl rfl ?_
  refine Go_st rfl rfl ?_
  refine Go_st rfl rfl ?_
  refine Go_bin (v := 32) rfl (by decide +kernel) ?_
  refine Go_st rfl rfl ?_
  refine Go_bin (v := 41) rfl (by decide +kernel) ?_
  refine Go_st rfl rfl ?_
  refine Go_st rfl rfl ?_
  refine Go_st rfl rfl ?_
  refine Go_bin (v := 0) rfl (by decide +kernel) ?_
  refine Go_st rfl rfl ?_
  refine Go_bin (v := 9) rfl (by decide +kernel) ?_
  refine Go_iald (v := 0) rfl rfl (by decide +kernel) (by decide +kernel) ?_
  refine Go_iast0 rfl rfl (by decide +kernel) ?_
  refine Go_inc (v := 10) rfl rfl (by decide +kernel) ?_
  refine Go_st rfl rfl ?_
  refine Go_st rfl rfl ?_
  refine Go_st rfl rfl ?_
  refine Go_st rfl rfl ?_
  refine Go_ifF (by decide +kernel) ?_
  refine Go_st rfl rfl ?_
  refine Go_st rfl rfl ?_
  refine Go_st rfl rfl ?_
  refine Go_bin (v := 32) rfl (by decide +kernel) ?_
  refine Go_st rfl rfl ?_
  refine Go_bin (v := 42) rfl (by decide +kernel) ?_
  refine Go_st rfl rfl ?_
  refine Go_st rfl rfl ?_
  refine Go_st rfl rfl ?_
  refine Go_bin (v := 0) rfl (by decide +kernel) ?_
  refine Go_st rfl rfl ?_
  refine Go_bin (v := 10) rfl (by decide +kernel) ?_
  refine Go_iald (v := 0) rfl rfl (by decide +kernel) (by decide +kernel) ?_
  refine Go_iast0 rfl rfl (by decide +kernel) ?_
  refine Go_inc (v := 11) rfl rfl (by decide +kernel) ?_
  refine Go_st rfl rfl ?_
  refine Go_st rfl rfl ?_
  refine Go_st rfl rfl ?_
  refine Go_st rfl rfl ?_
  refine Go_ifF (by decide +kernel) ?_
  refine Go_st rfl rfl ?_
  refine Go_st rfl rfl ?_
  refine Go_st rfl rfl ?_
  refine Go_bin (v := 32) rfl (by decide +kernel) ?_
  refine Go_st rfl rfl ?_
  refine Go_bin (v := 43) rfl (by decide +kernel) ?_
  refine Go_st rfl rfl ?_
  refine Go_st rfl rfl ?_
  refine Go_st rfl rfl ?_
  refine Go_bin (v := 0) rfl (by decide +kernel) ?_
  refine Go_st rfl rfl ?_
  refine Go_bin (v := 11) rfl (by decide +kernel) ?_
  refine Go_iald (v := 0) rfl rfl (by decide +kernel) (by decide +kernel) ?_
  refine Go_iast0 rfl rfl (by decide +kernel) ?_
  refine Go_inc (v := 12) rfl rfl (by decide +kernel) ?_
  refine Go_st rfl rfl ?_
  refine Go_st rfl rfl ?_
  refine Go_st rfl rfl ?_
  refine Go_st rfl rfl ?_
  refine Go_ifF (by decide +kernel) ?_
  refine Go_st rfl rfl ?_
  refine Go_st rfl rfl ?_
  refine Go_st rfl rfl ?_
  refine Go_bin (v := 32) rfl (by decide +kernel) ?_
  refine Go_st rfl rfl ?_
  refine Go_bin (v := 44) rfl (by decide +kernel) ?_
  refine Go_st rfl rfl ?_
  refine Go_st rfl rfl ?_
  refine Go_st rfl rfl ?_
  refine Go_bin (v := 0) rfl (by decide +kernel) ?_
  refine Go_st rfl rfl ?_
  refine Go_bin (v := 12) rfl (by decide +kernel) ?_
  refine Go_iald (v := 0) rfl rfl (by decide +kernel) (by decide +kernel) ?_
  refine Go_iast0 rfl rfl (by decide +kernel) ?_
  refine Go_inc (v := 13) rfl rfl (by decide +kernel) ?_
  refine Go_st rfl rfl ?_
  refine Go_st rfl rfl ?_
  refine Go_st rfl rfl ?_
  refine Go_st rfl rfl ?_
  refine Go_ifF (by decide +kernel) ?_
  refine Go_st rfl rfl ?_
  refine Go_st rfl rfl ?_
  refine Go_st rfl rfl ?_
  refine Go_bin (v := 32) rfl (by decide +kernel) ?_
  refine Go_st rfl rfl ?_
  refine Go_bin (v := 45) rfl (by decide +kernel) ?_
  refine Go_st rfl rfl ?_
  refine Go_st rfl rfl ?_
  refine Go_st rfl rfl ?_
  refine Go_bin (v := 0) rfl (by decide +kernel) ?_
  refine Go_st rfl rfl ?_
  refine Go_bin (v := 13) rfl (by decide +kernel) ?_
  refine Go_iald (v := 0) rfl rfl (by decide +kernel) (by decide +kernel) ?_
  refine Go_iast0 rfl rfl (by decide +kernel) ?_
  refine Go_inc (v := 14) rfl rfl (by decide +kernel) ?_
  refine Go_st rfl rfl ?_
  refine Go_st rfl rfl ?_
  refine Go_st rfl rfl ?_
  refine Go_st rfl rfl ?_
  refine Go_ifF (by decide +kernel) ?_
  refine Go_st rfl rfl ?_
  refine Go_st rfl rfl ?_
  refine Go_st rfl rfl ?_
  refine Go_bin (v := 32) rfl (by decide +kernel) ?_
  refine Go_st rfl rfl ?_
  refine Go_bin (v := 46) rfl (by decide +kernel) ?_
  refine Go_st rfl rfl ?_
  refine Go_st rfl rfl ?_
  refine Go_st rfl rfl ?_
  refine Go_bin (v := 0) rfl (by decide +kernel) ?_
  refine Go_st rfl rfl ?_
  refine Go_bin (v := 14) rfl (by decide +kernel) ?_
  refine Go_iald (v := 0) rfl rfl (by decide +kernel) (by decide +kernel) ?_
  refine Go_iast0 rfl rfl (by decide +kernel) ?_
  refine Go_inc (v := 15) rfl rfl (by decide +kernel) ?_
  refine Go_st rfl rfl ?_
  refine Go_st rfl rfl ?_
  refine Go_st rfl rfl ?_
  refine Go_st rfl rfl ?_
  refine Go_ifF (by decide +kernel) ?_
  refine Go_st rfl rfl ?_
  refine Go_st rfl rfl ?_
  refine Go_st rfl rfl ?_
  refine Go_bin (v := 32) rfl (by decide +kernel) ?_
  refine Go_st rfl rfl ?_
  refine Go_bin (v := 47) rfl (by decide +kernel) ?_
  refine Go_st rfl rfl ?_
  refine Go_st rfl rfl ?_
  refine Go_st rfl rfl ?_
  refine Go_bin (v := 0) rfl (by decide +kernel) ?_
  refine Go_st rfl rfl ?_
  refine Go_bin (v := 15) rfl (by decide +kernel) ?_
  refine Go_iald (v := 0) rfl rfl (by decide +kernel) (by decide +kernel) ?_
  refine Go_iast0 rfl rfl (by decide +kernel) ?_
  refine Go_inc (v := 16) rfl rfl (by decide +kernel) ?_
  refine Go_st rfl rfl ?_
  refine Go_st rfl rfl ?_
  refine Go_st rfl rfl ?_
  refine Go_st rfl rfl ?_
  refine Go_ifT (by decide +kernel) ?_
  exact Go_ret rfl ⟨rfl, rfl⟩
set_option maxRecDepth 20000 in
set_option maxHeartbeats 4000000 in
theorem rm_X9_copyRow_16_0_2 (c : Nat → pm_E) (d : Nat)  : pm_Rt pm_P (d + 1) 132 (hpm c) [.ref 86, .int 16, .int 0, .int 2] (hpm c) none := by
  refine Rt_of aiX9_copyRow (Nat.le_of_ble_eq_true rfl) ?_
  refine Go_st rfl rfl ?_
  refine Go_st rfl rfl ?_
  refine Go_st rfl rfl ?_
  refine Go_st rfl rfl ?_
  refine Go_st rfl rfl ?_
  refine Go_ifF (by decide +kernel) ?_
  refine Go_st rfl rfl ?_
  refine Go_st rfl rfl ?_
  refine Go_st rfl rfl ?_
  refine Go_bin (v := 32) rfl (by decide +kernel) ?_
  refine Go_st rfl rfl ?_
  refine Go_bin (v := 32) rfl (by decide +kernel) ?_
  refine Go_st rfl rfl ?_
  refine Go_st rfl rfl ?_
  refine Go_st rfl rfl ?_
  refine Go_bin (v := 0) rfl (by decide +kernel) ?_
  refine Go_st rfl rfl ?_
  refine Go_bin (v := 0) rfl (by decide +kernel) ?_
  refine Go_iald (v := 0) rfl rfl (by decide +kernel) (by decide +kernel) ?_
  refine Go_iast0 rfl rfl (by decide +kernel) ?_
  refine Go_inc (v := 1) rfl rfl (by decide +kernel) ?_
  refine Go_st rfl rfl ?_
  refine Go_st rfl rfl ?_
  refine Go_st rfl rfl ?_
  refine Go_st rfl rfl ?_
  refine Go_ifF (by decide +kernel) ?_
  refine Go_st rfl rfl ?_
  refine Go_st rfl rfl ?_
  refine Go_st rfl rfl ?_
  refine Go_bin (v := 32) rfl (by decide +kernel) ?_
  refine Go_st rfl rfl ?_
  refine Go_bin (v := 33) rfl (by decide +kernel) ?_
  refine Go_st rfl rfl ?_
  refine Go_st rfl rfl ?_
  refine Go_st rfl rfl ?_
  refine Go_bin (v := 0) rfl (by decide +kernel) ?_
  refine Go_st rfl rfl ?_
  refine Go_bin (v := 1) rfl (by decide +kernel) ?_
  refine Go_iald (v := 0) rfl rfl (by decide +kernel) (by decide +kernel) ?_
  refine Go_iast0 rfl rfl (by decide +kernel) ?_
  refine Go_inc (v := 2) rfl rfl (by decide +kernel) ?_
  refine Go_st rfl rfl ?_
  refine Go_st rfl rfl ?_
  refine Go_st rfl rfl ?_
  refine Go_st rfl rfl ?_
  refine Go_ifF (by decide +kernel) ?_
  refine Go_st rfl rfl ?_
  refine Go_st rfl rfl ?_
  refine Go_st rfl rfl ?_
  refine Go_bin (v := 32) rfl (by decide +kernel) ?_
  refine Go_st rfl rfl ?_
  refine Go_bin (v := 34) rfl (by decide +kernel) ?_
  refine Go_st rfl rfl ?_
  refine Go_st rfl rfl ?_
  refine Go_st rfl rfl ?_
  refine Go_bin (v := 0) rfl (by decide +kernel) ?_
  refine Go_st rfl rfl ?_
  refine Go_bin (v := 2) rfl (by decide +kernel) ?_
  refine Go_iald (v := 0) rfl rfl (by decide +kernel) (by decide +kernel) ?_
  refine Go_iast0 rfl rfl (by decide +kernel) ?_
  refine Go_inc (v := 3) rfl rfl (by decide +kernel) ?_
  refine Go_st rfl rfl ?_
  refine Go_st rfl rfl ?_
  refine Go_st rfl rfl ?_
  refine Go_st rfl rfl ?_
  refine Go_ifF (by decide +kernel) ?_
  refine Go_st rfl rfl ?_
  refine Go_st rfl rfl ?_
  refine Go_st rfl rfl ?_
  refine Go_bin (v := 32) rfl (by decide +kernel) ?_
  refine Go_st rfl rfl ?_
  refine Go_bin (v := 35) rfl (by decide +kernel) ?_
  refine Go_st rfl rfl ?_
  refine Go_st rfl rfl ?_
  refine Go_st rfl rfl ?_
  refine Go_bin (v := 0) rfl (by decide +kernel) ?_
  refine Go_st rfl rfl ?_
  refine Go_bin (v := 3) rfl (by decide +kernel) ?_
  refine Go_iald (v := 0) rfl rfl (by decide +kernel) (by decide +kernel) ?_
  refine Go_iast0 rfl rfl (by decide +kernel) ?_
  refine Go_inc (v := 4) rfl rfl (by decide +kernel) ?_
  refine Go_st rfl rfl ?_
  refine Go_st rfl rfl ?_
  refine Go_st rfl rfl ?_
  refine Go_st rfl rfl ?_
  refine Go_ifF (by decide +kernel) ?_
  refine Go_st rfl rfl ?_
  refine Go_st rfl rfl ?_
  refine Go_st rfl rfl ?_
  refine Go_bin (v := 32) rfl (by decide +kernel) ?_
  refine Go_st rfl rfl ?_
  refine Go_bin (v := 36) rfl (by decide +kernel) ?_
  refine Go_st rfl rfl ?_
  refine Go_st rfl rfl ?_
  refine Go_st rfl rfl ?_
  refine Go_bin (v := 0) rfl (by decide +kernel) ?_
  refine Go_st rfl rfl ?_
  refine Go_bin (v := 4) rfl (by decide +kernel) ?_
  refine Go_iald (v := 0) rfl rfl (by decide +kernel) (by decide +kernel) ?_
  refine Go_iast0 rfl rfl (by decide +kernel) ?_
  refine Go_inc (v := 5) rfl rfl (by decide +kernel) ?_
  refine Go_st rfl rfl ?_
  refine Go_st rfl rfl ?_
  refine Go_st rfl rfl ?_
  refine Go_st rfl rfl ?_
  refine Go_ifF (by decide +kernel) ?_
  refine Go_st rfl rfl ?_
  refine Go_st rfl rfl ?_
  refine Go_st rfl rfl ?_
  refine Go_bin (v := 32) rfl (by decide +kernel) ?_
  refine Go_st rfl rfl ?_
  refine Go_bin (v := 37) rfl (by decide +kernel) ?_
  refine Go_st rfl rfl ?_
  refine Go_st rfl rfl ?_
  refine Go_st rfl rfl ?_
  refine Go_bin (v := 0) rfl (by decide +kernel) ?_
  refine Go_st rfl rfl ?_
  refine Go_bin (v := 5) rfl (by decide +kernel) ?_
  refine Go_iald (v := 0) rfl rfl (by decide +kernel) (by decide +kernel) ?_
  refine Go_iast0 rfl rfl (by decide +kernel) ?_
  refine Go_inc (v := 6) rfl rfl (by decide +kernel) ?_
  refine Go_st rfl rfl ?_
  refine Go_st rfl rfl ?_
  refine Go_st rfl rfl ?_
  refine Go_st rfl rfl ?_
  refine Go_ifF (by decide +kernel) ?_
  refine Go_st rfl rfl ?_
  refine Go_st rfl rfl ?_
  refine Go_st rfl rfl ?_
  refine Go_bin (v := 32) rfl (by decide +kernel) ?_
  refine Go_st rfl rfl ?_
  refine Go_bin (v := 38) rfl (by decide +kernel) ?_
  refine Go_st rfl rfl ?_
  refine Go_st rfl rfl ?_
  refine Go_st rfl rfl ?_
  refine Go_bin (v := 0) rfl (by decide +kernel) ?_
  refine Go_st rfl rfl ?_
  refine Go_bin (v := 6) rfl (by decide +kernel) ?_
  refine Go_iald (v := 0) rfl rfl (by decide +kernel) (by decide +kernel) ?_
  refine Go_iast0 rfl rfl (by decide +kernel) ?_
  refine Go_inc (v := 7) rfl rfl (by decide +kernel) ?_
  refine Go_st rfl rfl ?_
  refine Go_st rfl rfl ?_
  refine Go_st rfl rfl ?_
  refine Go_st rfl rfl ?_
  refine Go_ifF (by decide +kernel) ?_
  refine Go_st rfl rfl ?_
  refine Go_st rfl rfl ?_
  refine Go_st rfl rfl ?_
  refine Go_bin (v := 32) rfl (by decide +kernel) ?_
  refine Go_st rfl rfl ?_
  refine Go_bin (v := 39) rfl (by decide +kernel) ?_
  refine Go_st rfl rfl ?_
  refine Go_st rfl rfl ?_
  refine Go_st rfl rfl ?_
  refine Go_bin (v := 0) rfl (by decide +kernel) ?_
  refine Go_st rfl rfl ?_
  refine Go_bin (v := 7) rfl (by decide +kernel) ?_
  refine Go_iald (v := 0) rfl rfl (by decide +kernel) (by decide +kernel) ?_
  refine Go_iast0 rfl rfl (by decide +kernel) ?_
  refine Go_inc (v := 8) rfl rfl (by decide +kernel) ?_
  refine Go_st rfl rfl ?_
  refine Go_st rfl rfl ?_
  refine Go_st rfl rfl ?_
  refine Go_st rfl rfl ?_
  refine Go_ifF (by decide +kernel) ?_
  refine Go_st rfl rfl ?_
  refine Go_st rfl rfl ?_
  refine Go_st rfl rfl ?_
  refine Go_bin (v := 32) rfl (by decide +kernel) ?_
  refine Go_st rfl rfl ?_
  refine Go_bin (v := 40) rfl (by decide +kernel) ?_
  refine Go_st rfl rfl ?_
  refine Go_st rfl rfl ?_
  refine Go_st rfl rfl ?_
  refine Go_bin (v := 0) rfl (by decide +kernel) ?_
  refine Go_st rfl rfl ?_
  refine Go_bin (v := 8) rfl (by decide +kernel) ?_
  refine Go_iald (v := 0) rfl rfl (by decide +kernel) (by decide +kernel) ?_
  refine Go_iast0 rfl rfl (by decide +kernel) ?_
  refine Go_inc (v := 9) rfl rfl (by decide +kernel) ?_
  refine Go_st rfl rfl ?_
  refine Go_st rfl rfl ?_
  refine Go_st rfl rfl ?_
  refine Go_st rfl rfl ?_
  refine Go_ifF (by decide +kernel) ?_
  refine Go_st rfl rfl ?_
  refine Go_st rfl rfl ?_
  refine Go_st rfl rfl ?_
  refine Go_bin (v := 32) rfl (by decide +kernel) ?_
  refine Go_st rfl rfl ?_
  refine Go_bin (v := 41) rfl (by decide +kernel) ?_
  refine Go_st rfl rfl ?_
  refine Go_st rfl rfl ?_
  refine Go_st rfl rfl ?_
  refine Go_bin (v := 0) rfl (by decide +kernel) ?_
  refine Go_st rfl rfl ?_
  refine Go_bin (v := 9) rfl (by decide +kernel) ?_
  refine Go_iald (v := 0) rfl rfl (by decide +kernel) (by decide +kernel) ?_
  refine Go_iast0 rfl rfl (by decide +kernel) ?_
  refine Go_inc (v := 10) rfl rfl (by decide +kernel) ?_
  refine Go_st rfl rfl ?_
  refine Go_st rfl rfl ?_
  refine Go_st rfl rfl ?_
  refine Go_st rfl rfl ?_
  refine Go_ifF (by decide +kernel) ?_
  refine Go_st rfl rfl ?_
  refine Go_st rfl rfl ?_
  refine Go_st rfl rfl ?_
  refine Go_bin (v := 32) rfl (by decide +kernel) ?_
  refine Go_st rfl rfl ?_
  refine Go_bin (v := 42) rfl (by decide +kernel) ?_
  refine Go_st rfl rfl ?_
  refine Go_st rfl rfl ?_
  refine Go_st rfl rfl ?_
  refine Go_bin (v := 0) rfl (by decide +kernel) ?_
  refine Go_st rfl rfl ?_
  refine Go_bin (v := 10) rfl (by decide +kernel) ?_
  refine Go_iald (v := 0) rfl rfl (by decide +kernel) (by decide +kernel) ?_
  refine Go_iast0 rfl rfl (by decide +kernel) ?_
  refine Go_inc (v := 11) rfl rfl (by decide +kernel) ?_
  refine Go_st rfl rfl ?_
  refine Go_st rfl rfl ?_
  refine Go_st rfl rfl ?_
  refine Go_st rfl rfl ?_
  refine Go_ifF (by decide +kernel) ?_
  refine Go_st rfl rfl ?_
  refine Go_st rfl rfl ?_
  refine Go_st rfl rfl ?_
  refine Go_bin (v := 32) rfl (by decide +kernel) ?_
  refine Go_st rfl rfl ?_
  refine Go_bin (v := 43) rfl (by decide +kernel) ?_
  refine Go_st rfl rfl ?_
  refine Go_st rfl rfl ?_
  refine Go_st rfl rfl ?_
  refine Go_bin (v := 0) rfl (by decide +kernel) ?_
  refine Go_st rfl rfl ?_
  refine Go_bin (v := 11) rfl (by decide +kernel) ?_
  refine Go_iald (v := 0) rfl rfl (by decide +kernel) (by decide +kernel) ?_
  refine Go_iast0 rfl rfl (by decide +kernel) ?_
  refine Go_inc (v := 12) rfl rfl (by decide +kernel) ?_
  refine Go_st rfl rfl ?_
  refine Go_st rfl rfl ?_
  refine Go_st rfl rfl ?_
  refine Go_st rfl rfl ?_
  refine Go_ifF (by decide +kernel) ?_
  refine Go_st rfl rfl ?_
  refine Go_st rfl rfl ?_
  refine Go_st rfl rfl ?_
  refine Go_bin (v := 32) rfl (by decide +kernel) ?_
  refine Go_st rfl rfl ?_
  refine Go_bin (v := 44) rfl (by decide +kernel) ?_
  refine Go_st rfl rfl ?_
  refine Go_st rfl rfl ?_
  refine Go_st rfl rfl ?_
  refine Go_bin (v := 0) rfl (by decide +kernel) ?_
  refine Go_st rfl rfl ?_
  refine Go_bin (v := 12) rfl (by decide +kernel) ?_
  refine Go_iald (v := 0) rfl rfl (by decide +kernel) (by decide +kernel) ?_
  refine Go_iast0 rfl rfl (by decide +kernel) ?_
  refine Go_inc (v := 13) rfl rfl (by decide +kernel) ?_
  refine Go_st rfl rfl ?_
  refine Go_st rfl rfl ?_
  refine Go_st rfl rfl ?_
  refine Go_st rfl rfl ?_
  refine Go_ifF (by decide +kernel) ?_
  refine Go_st rfl rfl ?_
  refine Go_st rfl rfl ?_
  refine Go_st rfl rfl ?_
  refine Go_bin (v := 32) rfl (by decide +kernel) ?_
  refine Go_st rfl rfl ?_
  refine Go_bin (v := 45) rfl (by decide +kernel) ?_
  refine Go_st rfl rfl ?_
  refine Go_st rfl rfl ?_
  refine Go_st rfl rfl ?_
  refine Go_bin (v := 0) rfl (by decide +kernel) ?_
  refine Go_st rfl rfl ?_
  refine Go_bin (v := 13) rfl (by decide +kernel) ?_
  refine Go_iald (v := 0) rfl rfl (by decide +kernel) (by decide +kernel) ?_
  refine Go_iast0 rfl rfl (by decide +kernel) ?_
  refine Go_inc (v := 14) rfl rfl (by decide +kernel) ?_
  refine Go_st rfl rfl ?_
  refine Go_st rfl rfl ?_
  refine Go_st rfl rfl ?_
  refine Go_st rfl rfl ?_
  refine Go_ifF (by decide +kernel) ?_
  refine Go_st rfl rfl ?_
  refine Go_st rfl rfl ?_
  refine Go_st rfl rfl ?_
  refine Go_bin (v := 32) rfl (by decide +kernel) ?_
  refine Go_st rfl rfl ?_
  refine Go_bin (v := 46) rfl (by decide +kernel) ?_
  refine Go_st rfl rfl ?_
  refine Go_st rfl rfl ?_
  refine Go_st rfl rfl ?_
  refine Go_bin (v := 0) rfl (by decide +kernel) ?_
  refine Go_st rfl rfl ?_
  refine Go_bin (v := 14) rfl (by decide +kernel) ?_
  refine Go_iald (v := 0) rfl rfl (by decide +kernel) (by decide +kernel) ?_
  refine Go_iast0 rfl rfl (by decide +kernel) ?_
  refine Go_inc (v := 15) rfl rfl (by decide +kernel) ?_
  refine Go_st rfl rfl ?_
  refine Go_st rfl rfl ?_
  refine Go_st rfl rfl ?_
  refine Go_st rfl rfl ?_
  refine Go_ifF (by decide +kernel) ?_
  refine Go_st rfl rfl ?_
  refine Go_st rfl rfl ?_
  refine Go_st rfl rfl ?_
  refine Go_bin (v := 32) rfl (by decide +kernel) ?_
  refine Go_st rfl rfl ?_
  refine Go_bin (v := 47) rfl (by decide +kernel) ?_
  refine Go_st rfl rfl ?_
  refine Go_st rfl rfl ?_
  refine Go_st rfl rfl ?_
  refine Go_bin (v := 0) rfl (by decide +kernel) ?_
  refine Go_st rfl rfl ?_
  refine Go_bin (v := 15) rfl (by decide +kernel) ?_
  refine Go_iald (v := 0) rfl rfl (by decide +kernel) (by decide +kernel) ?_
  refine Go_iast0 rfl rfl (by decide +kernel) ?_
  refine Go_inc (v := 16) rfl rfl (by decide +kernel) ?_
  refine Go_st rfl rfl ?_
  refine Go_st rfl rfl ?_
  refine Go_st rfl rfl ?_
  refine Go_st rfl rfl ?_
  refine Go_ifT (by decide +kernel) ?_
  exact Go_ret rfl ⟨rfl, rfl⟩
