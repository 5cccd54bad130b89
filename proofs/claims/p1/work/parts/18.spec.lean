/-! runs on a fresh object whose answer hangs on the arguments (written by gen_special.py) -/
theorem Go_tswD {look : Nat → Option pm_I} {call : pm_Call} {pc dd : Nat} {lo hi : Int} {ts : List Nat} {x : Int32} {lv : List (Nat × Value)} {st : List Value} {w : pm_H × Nat × Nat} {o : pm_H × Option Value} (h1 : look pc = some (.inl (s_tsw lo hi ts dd))) (hz : x.toInt < lo ∨ hi < x.toInt) (k : pm_Go look call (dd, lv, st, w) o) : pm_Go look call (pc, lv, .int x :: st, w) o := by
  refine Go_st h1 ?_ k
  have e : (decide (x.toInt < lo) || decide (hi < x.toInt)) = true := by simpa using hz
  simp only [s_tsw, e, cond_true]
theorem pm_eqI {x y : Int32} {n : Int} (h : x.toInt = n) (hy : y.toInt = n) : x = y := Int32.toInt_inj.mp (by rw [h, hy])
theorem pm_9 (x : Int32) : x = 0 ∨ x = 1 ∨ x = 2 ∨ x = 3 ∨ x = 4 ∨ x = 5 ∨ x = 6 ∨ x = 7 ∨ x = 8 ∨ (x.toInt < 0 ∨ 8 < x.toInt) := by
  rcases (show x.toInt = 0 ∨ x.toInt = 1 ∨ x.toInt = 2 ∨ x.toInt = 3 ∨ x.toInt = 4 ∨ x.toInt = 5 ∨ x.toInt = 6 ∨ x.toInt = 7 ∨ x.toInt = 8 ∨ (x.toInt < 0 ∨ 8 < x.toInt) by omega) with h | h | h | h | h | h | h | h | h | h
  · exact Or.inl (pm_eqI h rfl)
  · exact Or.inr (Or.inl (pm_eqI h rfl))
  · exact Or.inr (Or.inr (Or.inl (pm_eqI h rfl)))
  · exact Or.inr (Or.inr (Or.inr (Or.inl (pm_eqI h rfl))))
  · exact Or.inr (Or.inr (Or.inr (Or.inr (Or.inl (pm_eqI h rfl)))))
  · exact Or.inr (Or.inr (Or.inr (Or.inr (Or.inr (Or.inl (pm_eqI h rfl))))))
  · exact Or.inr (Or.inr (Or.inr (Or.inr (Or.inr (Or.inr (Or.inl (pm_eqI h rfl)))))))
  · exact Or.inr (Or.inr (Or.inr (Or.inr (Or.inr (Or.inr (Or.inr (Or.inl (pm_eqI h rfl))))))))
  · exact Or.inr (Or.inr (Or.inr (Or.inr (Or.inr (Or.inr (Or.inr (Or.inr (Or.inl (pm_eqI h rfl)))))))))
  · exact Or.inr (Or.inr (Or.inr (Or.inr (Or.inr (Or.inr (Or.inr (Or.inr (Or.inr h))))))))
theorem pm_4 (x : Int32) : x = 0 ∨ x = 1 ∨ x = 2 ∨ x = 3 ∨ (x.toInt < 0 ∨ 3 < x.toInt) := by
  rcases (show x.toInt = 0 ∨ x.toInt = 1 ∨ x.toInt = 2 ∨ x.toInt = 3 ∨ (x.toInt < 0 ∨ 3 < x.toInt) by omega) with h | h | h | h | h
  · exact Or.inl (pm_eqI h rfl)
  · exact Or.inr (Or.inl (pm_eqI h rfl))
  · exact Or.inr (Or.inr (Or.inl (pm_eqI h rfl)))
  · exact Or.inr (Or.inr (Or.inr (Or.inl (pm_eqI h rfl))))
  · exact Or.inr (Or.inr (Or.inr (Or.inr h)))
theorem pm_3 (x : Int32) : x = 0 ∨ x = 1 ∨ x = 2 ∨ (x.toInt < 0 ∨ 2 < x.toInt) := by
  rcases (show x.toInt = 0 ∨ x.toInt = 1 ∨ x.toInt = 2 ∨ (x.toInt < 0 ∨ 2 < x.toInt) by omega) with h | h | h | h
  · exact Or.inl (pm_eqI h rfl)
  · exact Or.inr (Or.inl (pm_eqI h rfl))
  · exact Or.inr (Or.inr (Or.inl (pm_eqI h rfl)))
  · exact Or.inr (Or.inr (Or.inr h))
theorem pm_out {x : Int32} {lo hi : Int64} (h : x.toInt < lo.toInt ∨ hi.toInt < x.toInt) : ¬ (lo ≤ x.toInt64 ∧ x.toInt64 ≤ hi) := fun q => by
  have h2 := Int64.le_iff_toInt_le.mp q.1
  have h3 := Int64.le_iff_toInt_le.mp q.2
  rw [Int32.toInt_toInt64] at h2 h3
  omega
theorem pm_inn {x : Int32} {lo hi : Int64} (h1 : lo.toInt ≤ x.toInt) (h2 : x.toInt ≤ hi.toInt) : lo ≤ x.toInt64 ∧ x.toInt64 ≤ hi :=
  ⟨Int64.le_iff_toInt_le.mpr (by rw [Int32.toInt_toInt64]; exact h1), Int64.le_iff_toInt_le.mpr (by rw [Int32.toInt_toInt64]; exact h2)⟩
theorem pm_ltF {x y : Int32} (h : y.toInt ≤ x.toInt) : decide (x < y) = false := decide_eq_false (fun q => by have := Int32.lt_iff_toInt_lt.mp q; omega)
theorem pm_ltT {x y : Int32} (h : x.toInt < y.toInt) : decide (x < y) = true := decide_eq_true (Int32.lt_iff_toInt_lt.mpr h)
theorem pm_leF {x y : Int32} (h : y.toInt < x.toInt) : decide (x ≤ y) = false := decide_eq_false (fun q => by have := Int32.le_iff_toInt_le.mp q; omega)
theorem pm_leT {x y : Int32} (h : x.toInt ≤ y.toInt) : decide (x ≤ y) = true := decide_eq_true (Int32.le_iff_toInt_le.mpr h)
theorem pm_lt_of {x y : Int32} (h : decide (x < y) = false) : y.toInt ≤ x.toInt := by
  have := of_decide_eq_false h
  rw [Int32.lt_iff_toInt_lt] at this
  omega
theorem pm_le_of {x y : Int32} (h : decide (x ≤ y) = true) : x.toInt ≤ y.toInt := Int32.le_iff_toInt_le.mp (of_decide_eq_true h)
theorem pm_slot4 {x : Int32} (h : x.toInt < 0 ∨ 3 < x.toInt) : x < 0 ∨ 4 ≤ x := by
  rw [Int32.lt_iff_toInt_lt, Int32.le_iff_toInt_le]
  have e0 : (0 : Int32).toInt = 0 := rfl
  have e4 : (4 : Int32).toInt = 4 := rfl
  omega

set_option maxRecDepth 20000 in
set_option maxHeartbeats 4000000 in
theorem rx_X8_end_n (d : Nat) (a1 : Int32) (hn : a1.toInt < 0 ∨ 0 < a1.toInt) : pm_Rt pm_P (d + 1) 33 hp0 [.ref 0, .int a1] hp0 (some (.int (-1))) := by
  refine Rt_of aiX8_end (Nat.le_of_ble_eq_true rfl) ?_
  refine Go_st rfl rfl ?_
  refine Go_st rfl rfl ?_
  refine Go_if (fun z1 => ?_) (fun z1 => ?_)
  · refine Go_st rfl rfl ?_
    exact Go_ret rfl ⟨_, rfl, rfl⟩
  · refine Go_st rfl rfl ?_
    refine Go_st rfl rfl ?_
    refine Go_st rfl rfl ?_
    refine Go_st rfl rfl ?_
    refine Go_st rfl rfl ?_
    refine Go_if (fun z2 => ?_) (fun z2 => ?_)
    · exact absurd (pm_le_of z2) (by have := pm_lt_of z1; have e0 : (0 : Int32).toInt = 0 := rfl; omega)
    · refine Go_st rfl rfl ?_
      exact Go_ret rfl ⟨_, rfl, rfl⟩
set_option maxRecDepth 20000 in
set_option maxHeartbeats 4000000 in
theorem rm_X9_end_n (c : Nat → pm_E) (d : Nat) (a1 : Int32) (hn : a1.toInt < 0 ∨ 0 < a1.toInt) : pm_Rt pm_P (d + 2) 137 (hpm c) [.ref 77, .int a1] (hpm c) (some (.int (-1))) := by
  refine Rt_of aiX9_end (Nat.le_of_ble_eq_true rfl) ?_
  refine Go_st rfl rfl ?_
  refine Go_st rfl rfl ?_
  refine Go_sm rfl rfl (sm_f rfl) ?_
  refine Go_st rfl rfl ?_
  refine Go_st rfl rfl ?_
  refine Go_st rfl rfl ?_
  refine Go_st rfl rfl ?_
  refine Go_st rfl rfl ?_
  refine Go_st rfl rfl ?_
  refine Go_call rfl (rm_in0 _ d _ _ _ (pm_out hn)) (chkS rfl rfl rfl rfl) ?_
  refine Go_st rfl rfl ?_
  refine Go_ifF (by decide +kernel) ?_
  refine Go_st rfl rfl ?_
  exact Go_ret rfl ⟨_, rfl, rfl⟩
set_option maxRecDepth 20000 in
set_option maxHeartbeats 4000000 in
theorem rx_X8_fault_n (d : Nat) (a1 : Int32) (h0 : ¬ a1 = 0) (h1 : ¬ a1 = 1) : pm_Rt pm_P (d + 1) 36 hp0 [.ref 0, .int a1] hp0 (some (.int (-1))) := by
  refine Rt_of aiX8_fault (Nat.le_of_ble_eq_true rfl) ?_
  refine Go_st rfl rfl ?_
  refine Go_st rfl rfl ?_
  refine Go_ifT (decide_eq_true h0) ?_
  refine Go_st rfl rfl ?_
  refine Go_st rfl rfl ?_
  refine Go_st rfl rfl ?_
  refine Go_ifT (decide_eq_true h1) ?_
  refine Go_st rfl rfl ?_
  exact Go_ret rfl ⟨_, rfl, rfl⟩
set_option maxRecDepth 20000 in
set_option maxHeartbeats 4000000 in
theorem rm_X9_fault_n (c : Nat → pm_E) (d : Nat) (a1 : Int32) (h0 : ¬ a1 = 0) (h1 : ¬ a1 = 1) : pm_Rt pm_P (d + 1) 140 (hpm c) [.ref 77, .int a1] (hpm c) (some (.int (-1))) := by
  refine Rt_of aiX9_fault (Nat.le_of_ble_eq_true rfl) ?_
  refine Go_st rfl rfl ?_
  refine Go_st rfl rfl ?_
  refine Go_sm rfl rfl (sm_f rfl) ?_
  refine Go_st rfl rfl ?_
  refine Go_st rfl rfl ?_
  refine Go_ifT (decide_eq_true h0) ?_
  refine Go_st rfl rfl ?_
  refine Go_st rfl rfl ?_
  refine Go_st rfl rfl ?_
  refine Go_ifT (decide_eq_true h1) ?_
  refine Go_st rfl rfl ?_
  exact Go_ret rfl ⟨_, rfl, rfl⟩
set_option maxRecDepth 20000 in
set_option maxHeartbeats 4000000 in
theorem rx_X8_count_n (d : Nat) (a1 : Int32) (hn : a1.toInt < 0 ∨ 8 < a1.toInt) : pm_Rt pm_P (d + 1) 30 hp0 [.ref 0, .int a1] hp0 (some (.int (-1))) := by
  refine Rt_of aiX8_count (Nat.le_of_ble_eq_true rfl) ?_
  refine Go_st rfl rfl ?_
  refine Go_tswD rfl hn ?_
  refine Go_st rfl rfl ?_
  exact Go_ret rfl ⟨_, rfl, rfl⟩
set_option maxRecDepth 20000 in
set_option maxHeartbeats 4000000 in
theorem rm_X9_count_n (c : Nat → pm_E) (d : Nat) (a1 : Int32) (hn : a1.toInt < 0 ∨ 8 < a1.toInt) : pm_Rt pm_P (d + 2) 134 (hpm c) [.ref 77, .int a1] (hpm c) (some (.int (-1))) := by
  refine Rt_of aiX9_count (Nat.le_of_ble_eq_true rfl) ?_
  refine Go_st rfl rfl ?_
  refine Go_st rfl rfl ?_
  refine Go_sm rfl rfl (sm_f rfl) ?_
  refine Go_st rfl rfl ?_
  refine Go_st rfl rfl ?_
  refine Go_st rfl rfl ?_
  refine Go_st rfl rfl ?_
  refine Go_call rfl (rm_in0 _ d _ _ _ (pm_out (by have e0 : (0 : Int64).toInt = 0 := rfl; have e5 : (5 : Int64).toInt = 5 := rfl; omega))) (chkS rfl rfl rfl rfl) ?_
  refine Go_st rfl rfl ?_
  refine Go_ifT (by decide +kernel) ?_
  refine Go_st rfl rfl ?_
  refine Go_st rfl rfl ?_
  refine Go_st rfl rfl ?_
  refine Go_tswD rfl (by omega) ?_
  refine Go_st rfl rfl ?_
  exact Go_ret rfl ⟨_, rfl, rfl⟩
set_option maxRecDepth 20000 in
set_option maxHeartbeats 4000000 in
theorem rx_X8_image_n (d : Nat) (a1 : Int32) (hn : a1.toInt < 0 ∨ 2 < a1.toInt) : pm_Rt pm_P (d + 1) 50 hp0 [.ref 0, .int a1] hp0 (some (.int (-2))) := by
  refine Rt_of aiX8_image (Nat.le_of_ble_eq_true rfl) ?_
  refine Go_st rfl rfl ?_
  refine Go_st rfl rfl ?_
  refine Go_if (fun z1 => ?_) (fun z1 => ?_)
  · refine Go_st rfl rfl ?_
    exact Go_ret rfl ⟨_, rfl, rfl⟩
  · refine Go_st rfl rfl ?_
    refine Go_st rfl rfl ?_
    refine Go_st rfl rfl ?_
    refine Go_ifF (pm_ltF (by have := pm_lt_of z1; have e0 : (0 : Int32).toInt = 0 := rfl; have e3 : (3 : Int32).toInt = 3 := rfl; omega)) ?_
    refine Go_st rfl rfl ?_
    exact Go_ret rfl ⟨_, rfl, rfl⟩
set_option maxRecDepth 20000 in
set_option maxHeartbeats 4000000 in
theorem rm_X9_image_n (c : Nat → pm_E) (d : Nat) (a1 : Int32) (hn : a1.toInt < 0 ∨ 2 < a1.toInt) : pm_Rt pm_P (d + 2) 150 (hpm c) [.ref 77, .int a1] (hpm c) (some (.int (-2))) := by
  refine Rt_of aiX9_image (Nat.le_of_ble_eq_true rfl) ?_
  refine Go_st rfl rfl ?_
  refine Go_st rfl rfl ?_
  refine Go_sm rfl rfl (sm_f rfl) ?_
  refine Go_st rfl rfl ?_
  refine Go_st rfl rfl ?_
  refine Go_st rfl rfl ?_
  refine Go_st rfl rfl ?_
  refine Go_call rfl (rm_in0 _ d _ _ _ (pm_out hn)) (chkS rfl rfl rfl rfl) ?_
  refine Go_st rfl rfl ?_
  refine Go_ifF (by decide +kernel) ?_
  refine Go_st rfl rfl ?_
  exact Go_ret rfl ⟨_, rfl, rfl⟩
set_option maxRecDepth 20000 in
set_option maxHeartbeats 4000000 in
theorem rx_X8_back_n (d : Nat) (a1 : Int32) (hn : a1.toInt < 0 ∨ 2 < a1.toInt) : pm_Rt pm_P (d + 1) 19 hp0 [.ref 0, .int a1] hp0 (some (.int (-2))) := by
  refine Rt_of aiX8_back (Nat.le_of_ble_eq_true rfl) ?_
  refine Go_st rfl rfl ?_
  refine Go_st rfl rfl ?_
  refine Go_if (fun z1 => ?_) (fun z1 => ?_)
  · refine Go_st rfl rfl ?_
    exact Go_ret rfl ⟨_, rfl, rfl⟩
  · refine Go_st rfl rfl ?_
    refine Go_st rfl rfl ?_
    refine Go_st rfl rfl ?_
    refine Go_ifF (pm_ltF (by have := pm_lt_of z1; have e0 : (0 : Int32).toInt = 0 := rfl; have e3 : (3 : Int32).toInt = 3 := rfl; omega)) ?_
    refine Go_st rfl rfl ?_
    exact Go_ret rfl ⟨_, rfl, rfl⟩
set_option maxRecDepth 20000 in
set_option maxHeartbeats 4000000 in
theorem rm_X9_back_n (c : Nat → pm_E) (d : Nat) (a1 : Int32) (hn : a1.toInt < 0 ∨ 2 < a1.toInt) : pm_Rt pm_P (d + 2) 118 (hpm c) [.ref 77, .int a1] (hpm c) (some (.int (-2))) := by
  refine Rt_of aiX9_back (Nat.le_of_ble_eq_true rfl) ?_
  refine Go_st rfl rfl ?_
  refine Go_st rfl rfl ?_
  refine Go_sm rfl rfl (sm_f rfl) ?_
  refine Go_st rfl rfl ?_
  refine Go_st rfl rfl ?_
  refine Go_st rfl rfl ?_
  refine Go_st rfl rfl ?_
  refine Go_call rfl (rm_in0 _ d _ _ _ (pm_out hn)) (chkS rfl rfl rfl rfl) ?_
  refine Go_st rfl rfl ?_
  refine Go_ifF (by decide +kernel) ?_
  refine Go_st rfl rfl ?_
  exact Go_ret rfl ⟨_, rfl, rfl⟩
set_option maxRecDepth 20000 in
set_option maxHeartbeats 4000000 in
theorem rx_X8_write_n (d : Nat) (a1 a2 : Int32) (a3 : Int64) (hn : a1.toInt < 0 ∨ 3 < a1.toInt) : pm_Rt pm_P (d + 2) 111 hp0 [.ref 0, .int a1, .int a2, .long a3] hp0 (some (.int (-2))) := by
  refine Rt_of aiX8_write (Nat.le_of_ble_eq_true rfl) ?_
  refine Go_st rfl rfl ?_
  refine Go_call rfl (rx_isSlot0 _ d _ (pm_slot4 hn)) (chkS rfl rfl rfl rfl) ?_
  refine Go_st rfl rfl ?_
  refine Go_ifF (by decide +kernel) ?_
  refine Go_st rfl rfl ?_
  exact Go_ret rfl ⟨_, rfl, rfl⟩
set_option maxRecDepth 20000 in
set_option maxHeartbeats 4000000 in
theorem rm_X9_write_n (c : Nat → pm_E) (d : Nat) (a1 a2 : Int32) (a3 : Int64) (hn : a1.toInt < 0 ∨ 3 < a1.toInt) : pm_Rt pm_P (d + 3) 219 (hpm c) [.ref 77, .int a1, .int a2, .long a3] (hpm c) (some (.int (-2))) := by
  refine Rt_of aiX9_write (Nat.le_of_ble_eq_true rfl) ?_
  refine Go_st rfl rfl ?_
  refine Go_st rfl rfl ?_
  refine Go_sm rfl rfl (sm_f rfl) ?_
  refine Go_st rfl rfl ?_
  refine Go_call rfl (rm_isSlot0 _ d _ (pm_out hn)) (chkS rfl rfl rfl rfl) ?_
  refine Go_st rfl rfl ?_
  refine Go_ifF (by decide +kernel) ?_
  refine Go_st rfl rfl ?_
  exact Go_ret rfl ⟨_, rfl, rfl⟩
set_option maxRecDepth 20000 in
set_option maxHeartbeats 4000000 in
theorem rx_X8_paste_n (d : Nat) (a1 a2 a3 a4 a5 : Int32) (hn : a1.toInt < 0 ∨ 3 < a1.toInt) : pm_Rt pm_P (d + 2) 74 hp0 [.ref 0, .int a1, .int a2, .int a3, .int a4, .int a5] hp0 (some (.int (-2))) := by
  refine Rt_of aiX8_paste (Nat.le_of_ble_eq_true rfl) ?_
  refine Go_st rfl rfl ?_
  refine Go_call rfl (rx_isSlot0 _ d _ (pm_slot4 hn)) (chkS rfl rfl rfl rfl) ?_
  refine Go_st rfl rfl ?_
  refine Go_ifT (by decide +kernel) ?_
  refine Go_st rfl rfl ?_
  exact Go_ret rfl ⟨_, rfl, rfl⟩
set_option maxRecDepth 20000 in
set_option maxHeartbeats 4000000 in
theorem rm_X9_paste_n (c : Nat → pm_E) (d : Nat) (a1 a2 a3 a4 a5 : Int32) (hn : a1.toInt < 0 ∨ 3 < a1.toInt) : pm_Rt pm_P (d + 3) 184 (hpm c) [.ref 77, .int a1, .int a2, .int a3, .int a4, .int a5] (hpm c) (some (.int (-2))) := by
  refine Rt_of aiX9_paste (Nat.le_of_ble_eq_true rfl) ?_
  refine Go_st rfl rfl ?_
  refine Go_st rfl rfl ?_
  refine Go_sm rfl rfl (sm_f rfl) ?_
  refine Go_st rfl rfl ?_
  refine Go_call rfl (rm_isSlot0 _ d _ (pm_out hn)) (chkS rfl rfl rfl rfl) ?_
  refine Go_st rfl rfl ?_
  refine Go_ifT (by decide +kernel) ?_
  refine Go_st rfl rfl ?_
  exact Go_ret rfl ⟨_, rfl, rfl⟩
set_option maxRecDepth 20000 in
set_option maxHeartbeats 4000000 in
theorem rx_X8_paste_m (d : Nat) (a1 a2 a3 a4 a5 : Int32) (hi : 0 ≤ a1.toInt ∧ a1.toInt ≤ 3) (hn : a3.toInt < 0 ∨ 3 < a3.toInt) : pm_Rt pm_P (d + 2) 74 hp0 [.ref 0, .int a1, .int a2, .int a3, .int a4, .int a5] hp0 (some (.int (-2))) := by
  refine Rt_of aiX8_paste (Nat.le_of_ble_eq_true rfl) ?_
  refine Go_st rfl rfl ?_
  refine Go_call rfl (rx_isSlot1 _ d _ (of_decide_eq_false (pm_ltF hi.1)) (of_decide_eq_false (pm_leF (by have e4 : (4 : Int32).toInt = 4 := rfl; omega)))) (chkS rfl rfl rfl rfl) ?_
  refine Go_st rfl rfl ?_
  refine Go_ifF (by decide +kernel) ?_
  refine Go_st rfl rfl ?_
  refine Go_call rfl (rx_isSlot0 _ d _ (pm_slot4 hn)) (chkS rfl rfl rfl rfl) ?_
  refine Go_st rfl rfl ?_
  refine Go_ifF (by decide +kernel) ?_
  refine Go_st rfl rfl ?_
  exact Go_ret rfl ⟨_, rfl, rfl⟩
set_option maxRecDepth 20000 in
set_option maxHeartbeats 4000000 in
theorem rm_X9_paste_m (c : Nat → pm_E) (d : Nat) (a1 a2 a3 a4 a5 : Int32) (hi : 0 ≤ a1.toInt ∧ a1.toInt ≤ 3) (hn : a3.toInt < 0 ∨ 3 < a3.toInt) : pm_Rt pm_P (d + 3) 184 (hpm c) [.ref 77, .int a1, .int a2, .int a3, .int a4, .int a5] (hpm c) (some (.int (-2))) := by
  refine Rt_of aiX9_paste (Nat.le_of_ble_eq_true rfl) ?_
  refine Go_st rfl rfl ?_
  refine Go_st rfl rfl ?_
  refine Go_sm rfl rfl (sm_f rfl) ?_
  refine Go_st rfl rfl ?_
  refine Go_call rfl (rm_isSlot1 _ d _ (pm_inn hi.1 hi.2)) (chkS rfl rfl rfl rfl) ?_
  refine Go_st rfl rfl ?_
  refine Go_ifF (by decide +kernel) ?_
  refine Go_st rfl rfl ?_
  refine Go_call rfl (rm_isSlot0 _ d _ (pm_out hn)) (chkS rfl rfl rfl rfl) ?_
  refine Go_st rfl rfl ?_
  refine Go_ifF (by decide +kernel) ?_
  refine Go_st rfl rfl ?_
  exact Go_ret rfl ⟨_, rfl, rfl⟩
set_option maxRecDepth 20000 in
set_option maxHeartbeats 4000000 in
theorem rx_X8_image_0 (d : Nat) : ∃ h1, pm_Rt pm_P (d + 2) 50 hp0 [.ref 0, .int 0] h1 (some (.int 0)) ∧ h1.drop 77 = hpMl := by
  refine ⟨hp0.set 52 (.inl (2, 3, .inl (upd (fun _ => 0) (Int32.toNatClampNeg 0) (vp_nar .boolean 1)))), Rt_of aiX8_image (Nat.le_of_ble_eq_true rfl) ?_, rfl⟩
  refine Go_st rfl rfl ?_
  refine Go_st rfl rfl ?_
  refine Go_ifF (by decide +kernel) ?_
  refine Go_st rfl rfl ?_
  refine Go_st rfl rfl ?_
  refine Go_st rfl rfl ?_
  refine Go_ifT (by decide +kernel) ?_
  refine Go_st rfl rfl ?_
  refine Go_st rfl rfl ?_
  refine Go_st rfl rfl ?_
  refine Go_st rfl rfl ?_
  refine Go_st rfl rfl ?_
  refine Go_st rfl rfl ?_
  refine Go_call rfl (rx_X5_take_25_15 d) (chkV rfl rfl rfl rfl rfl rfl) ?_
  refine Go_st rfl rfl ?_
  refine Go_st rfl rfl ?_
  refine Go_st rfl rfl ?_
  refine Go_st rfl rfl ?_
  refine Go_st rfl rfl ?_
  refine Go_st rfl rfl ?_
  exact Go_ret rfl ⟨_, rfl, rfl⟩
set_option maxRecDepth 20000 in
set_option maxHeartbeats 4000000 in
theorem rm_X9_image_0 (c : Nat → pm_E) (d : Nat) : ∃ h2, pm_Rt pm_P (d + 3) 150 (hpm c) [.ref 77, .int 0] h2 (some (.int 0)) := by
  refine ⟨(hpm c).set 88 (.inl (2, 3, .inl (upd (fun _ => 0) (Int32.toNatClampNeg 0) (vp_nar .boolean 1)))), Rt_of aiX9_image (Nat.le_of_ble_eq_true rfl) ?_⟩
  refine Go_st rfl rfl ?_
  refine Go_st rfl rfl ?_
  refine Go_sm rfl rfl (sm_f rfl) ?_
  refine Go_st rfl rfl ?_
  refine Go_st rfl rfl ?_
  refine Go_st rfl rfl ?_
  refine Go_st rfl rfl ?_
  refine Go_call rfl (rm_in1 _ (d + 1) _ _ _ (by decide +kernel)) (chkS rfl rfl rfl rfl) ?_
  refine Go_st rfl rfl ?_
  refine Go_ifT (by decide +kernel) ?_
  refine Go_st rfl rfl ?_
  refine Go_st rfl rfl ?_
  refine Go_st rfl rfl ?_
  refine Go_st rfl rfl ?_
  refine Go_bin (v := 1) rfl (by decide +kernel) ?_
  refine Go_call rfl (rm_X9_copyStreet_0_1 c d) (chkV rfl rfl rfl rfl rfl rfl) ?_
  refine Go_st rfl rfl ?_
  refine Go_st rfl rfl ?_
  refine Go_st rfl rfl ?_
  refine Go_st rfl rfl ?_
  refine Go_st rfl rfl ?_
  refine Go_st rfl rfl ?_
  exact Go_ret rfl ⟨_, rfl, rfl⟩
set_option maxRecDepth 20000 in
set_option maxHeartbeats 4000000 in
theorem rx_X8_image_1 (d : Nat) : ∃ h1, pm_Rt pm_P (d + 2) 50 hp0 [.ref 0, .int 1] h1 (some (.int 0)) ∧ h1.drop 77 = hpMl := by
  refine ⟨hp0.set 52 (.inl (2, 3, .inl (upd (fun _ => 0) (Int32.toNatClampNeg 1) (vp_nar .boolean 1)))), Rt_of aiX8_image (Nat.le_of_ble_eq_true rfl) ?_, rfl⟩
  refine Go_st rfl rfl ?_
  refine Go_st rfl rfl ?_
  refine Go_ifF (by decide +kernel) ?_
  refine Go_st rfl rfl ?_
  refine Go_st rfl rfl ?_
  refine Go_st rfl rfl ?_
  refine Go_ifT (by decide +kernel) ?_
  refine Go_st rfl rfl ?_
  refine Go_st rfl rfl ?_
  refine Go_st rfl rfl ?_
  refine Go_st rfl rfl ?_
  refine Go_st rfl rfl ?_
  refine Go_st rfl rfl ?_
  refine Go_call rfl (rx_X5_take_34_15 d) (chkV rfl rfl rfl rfl rfl rfl) ?_
  refine Go_st rfl rfl ?_
  refine Go_st rfl rfl ?_
  refine Go_st rfl rfl ?_
  refine Go_st rfl rfl ?_
  refine Go_st rfl rfl ?_
  refine Go_st rfl rfl ?_
  exact Go_ret rfl ⟨_, rfl, rfl⟩
set_option maxRecDepth 20000 in
set_option maxHeartbeats 4000000 in
theorem rm_X9_image_1 (c : Nat → pm_E) (d : Nat) : ∃ h2, pm_Rt pm_P (d + 3) 150 (hpm c) [.ref 77, .int 1] h2 (some (.int 0)) := by
  refine ⟨(hpm c).set 88 (.inl (2, 3, .inl (upd (fun _ => 0) (Int32.toNatClampNeg 1) (vp_nar .boolean 1)))), Rt_of aiX9_image (Nat.le_of_ble_eq_true rfl) ?_⟩
  refine Go_st rfl rfl ?_
  refine Go_st rfl rfl ?_
  refine Go_sm rfl rfl (sm_f rfl) ?_
  refine Go_st rfl rfl ?_
  refine Go_st rfl rfl ?_
  refine Go_st rfl rfl ?_
  refine Go_st rfl rfl ?_
  refine Go_call rfl (rm_in1 _ (d + 1) _ _ _ (by decide +kernel)) (chkS rfl rfl rfl rfl) ?_
  refine Go_st rfl rfl ?_
  refine Go_ifT (by decide +kernel) ?_
  refine Go_st rfl rfl ?_
  refine Go_st rfl rfl ?_
  refine Go_st rfl rfl ?_
  refine Go_st rfl rfl ?_
  refine Go_bin (v := 2) rfl (by decide +kernel) ?_
  refine Go_call rfl (rm_X9_copyStreet_0_2 c d) (chkV rfl rfl rfl rfl rfl rfl) ?_
  refine Go_st rfl rfl ?_
  refine Go_st rfl rfl ?_
  refine Go_st rfl rfl ?_
  refine Go_st rfl rfl ?_
  refine Go_st rfl rfl ?_
  refine Go_st rfl rfl ?_
  exact Go_ret rfl ⟨_, rfl, rfl⟩
set_option maxRecDepth 20000 in
set_option maxHeartbeats 4000000 in
theorem rx_X8_image_2 (d : Nat) : ∃ h1, pm_Rt pm_P (d + 2) 50 hp0 [.ref 0, .int 2] h1 (some (.int 0)) ∧ h1.drop 77 = hpMl := by
  refine ⟨hp0.set 52 (.inl (2, 3, .inl (upd (fun _ => 0) (Int32.toNatClampNeg 2) (vp_nar .boolean 1)))), Rt_of aiX8_image (Nat.le_of_ble_eq_true rfl) ?_, rfl⟩
  refine Go_st rfl rfl ?_
  refine Go_st rfl rfl ?_
  refine Go_ifF (by decide +kernel) ?_
  refine Go_st rfl rfl ?_
  refine Go_st rfl rfl ?_
  refine Go_st rfl rfl ?_
  refine Go_ifT (by decide +kernel) ?_
  refine Go_st rfl rfl ?_
  refine Go_st rfl rfl ?_
  refine Go_st rfl rfl ?_
  refine Go_st rfl rfl ?_
  refine Go_st rfl rfl ?_
  refine Go_st rfl rfl ?_
  refine Go_call rfl (rx_X5_take_43_15 d) (chkV rfl rfl rfl rfl rfl rfl) ?_
  refine Go_st rfl rfl ?_
  refine Go_st rfl rfl ?_
  refine Go_st rfl rfl ?_
  refine Go_st rfl rfl ?_
  refine Go_st rfl rfl ?_
  refine Go_st rfl rfl ?_
  exact Go_ret rfl ⟨_, rfl, rfl⟩
set_option maxRecDepth 20000 in
set_option maxHeartbeats 4000000 in
theorem rm_X9_image_2 (c : Nat → pm_E) (d : Nat) : ∃ h2, pm_Rt pm_P (d + 3) 150 (hpm c) [.ref 77, .int 2] h2 (some (.int 0)) := by
  refine ⟨(hpm c).set 88 (.inl (2, 3, .inl (upd (fun _ => 0) (Int32.toNatClampNeg 2) (vp_nar .boolean 1)))), Rt_of aiX9_image (Nat.le_of_ble_eq_true rfl) ?_⟩
  refine Go_st rfl rfl ?_
  refine Go_st rfl rfl ?_
  refine Go_sm rfl rfl (sm_f rfl) ?_
  refine Go_st rfl rfl ?_
  refine Go_st rfl rfl ?_
  refine Go_st rfl rfl ?_
  refine Go_st rfl rfl ?_
  refine Go_call rfl (rm_in1 _ (d + 1) _ _ _ (by decide +kernel)) (chkS rfl rfl rfl rfl) ?_
  refine Go_st rfl rfl ?_
  refine Go_ifT (by decide +kernel) ?_
  refine Go_st rfl rfl ?_
  refine Go_st rfl rfl ?_
  refine Go_st rfl rfl ?_
  refine Go_st rfl rfl ?_
  refine Go_bin (v := 3) rfl (by decide +kernel) ?_
  refine Go_call rfl (rm_X9_copyStreet_0_3 c d) (chkV rfl rfl rfl rfl rfl rfl) ?_
  refine Go_st rfl rfl ?_
  refine Go_st rfl rfl ?_
  refine Go_st rfl rfl ?_
  refine Go_st rfl rfl ?_
  refine Go_st rfl rfl ?_
  refine Go_st rfl rfl ?_
  exact Go_ret rfl ⟨_, rfl, rfl⟩
set_option maxRecDepth 20000 in
set_option maxHeartbeats 4000000 in
theorem rx_X8_row_n (d : Nat) (a1 a2 a3 : Int32) (hn : a1.toInt < 0 ∨ 3 < a1.toInt) : pm_Rt pm_P (d + 2) 85 hp0 [.ref 0, .int a1, .int a2, .int a3] hp0 (some (.int (-2))) := by
  refine Rt_of aiX8_row (Nat.le_of_ble_eq_true rfl) ?_
  refine Go_st rfl rfl ?_
  refine Go_call rfl (rx_isSlot0 _ d _ (pm_slot4 hn)) (chkS rfl rfl rfl rfl) ?_
  refine Go_st rfl rfl ?_
  refine Go_ifT (by decide +kernel) ?_
  refine Go_st rfl rfl ?_
  exact Go_ret rfl ⟨_, rfl, rfl⟩
set_option maxRecDepth 20000 in
set_option maxHeartbeats 4000000 in
theorem rm_X9_row_n (c : Nat → pm_E) (d : Nat) (a1 a2 a3 : Int32) (hn : a1.toInt < 0 ∨ 3 < a1.toInt) : pm_Rt pm_P (d + 3) 195 (hpm c) [.ref 77, .int a1, .int a2, .int a3] (hpm c) (some (.int (-2))) := by
  refine Rt_of aiX9_row (Nat.le_of_ble_eq_true rfl) ?_
  refine Go_st rfl rfl ?_
  refine Go_st rfl rfl ?_
  refine Go_sm rfl rfl (sm_f rfl) ?_
  refine Go_st rfl rfl ?_
  refine Go_call rfl (rm_isSlot0 _ d _ (pm_out hn)) (chkS rfl rfl rfl rfl) ?_
  refine Go_st rfl rfl ?_
  refine Go_ifT (by decide +kernel) ?_
  refine Go_st rfl rfl ?_
  exact Go_ret rfl ⟨_, rfl, rfl⟩
set_option maxRecDepth 20000 in
set_option maxHeartbeats 4000000 in
theorem rx_X8_row_w (d : Nat) (a1 a2 a3 : Int32) (hi : 0 ≤ a1.toInt ∧ a1.toInt ≤ 3) (hn : a2.toInt < 0 ∨ 3 < a2.toInt) : pm_Rt pm_P (d + 2) 85 hp0 [.ref 0, .int a1, .int a2, .int a3] hp0 (some (.int (-2))) := by
  refine Rt_of aiX8_row (Nat.le_of_ble_eq_true rfl) ?_
  refine Go_st rfl rfl ?_
  refine Go_call rfl (rx_isSlot1 _ d _ (of_decide_eq_false (pm_ltF hi.1)) (of_decide_eq_false (pm_leF (by have e4 : (4 : Int32).toInt = 4 := rfl; omega)))) (chkS rfl rfl rfl rfl) ?_
  refine Go_st rfl rfl ?_
  refine Go_ifF (by decide +kernel) ?_
  refine Go_st rfl rfl ?_
  refine Go_st rfl rfl ?_
  refine Go_if (fun z1 => ?_) (fun z1 => ?_)
  · refine Go_st rfl rfl ?_
    exact Go_ret rfl ⟨_, rfl, rfl⟩
  · refine Go_st rfl rfl ?_
    refine Go_st rfl rfl ?_
    refine Go_st rfl rfl ?_
    refine Go_ifT (pm_leT (by have := pm_lt_of z1; have e0 : (0 : Int32).toInt = 0 := rfl; have e4 : (4 : Int32).toInt = 4 := rfl; omega)) ?_
    refine Go_st rfl rfl ?_
    exact Go_ret rfl ⟨_, rfl, rfl⟩
set_option maxRecDepth 20000 in
set_option maxHeartbeats 4000000 in
theorem rm_X9_row_w (c : Nat → pm_E) (d : Nat) (a1 a2 a3 : Int32) (hi : 0 ≤ a1.toInt ∧ a1.toInt ≤ 3) (hn : a2.toInt < 0 ∨ 3 < a2.toInt) : pm_Rt pm_P (d + 3) 195 (hpm c) [.ref 77, .int a1, .int a2, .int a3] (hpm c) (some (.int (-2))) := by
  refine Rt_of aiX9_row (Nat.le_of_ble_eq_true rfl) ?_
  refine Go_st rfl rfl ?_
  refine Go_st rfl rfl ?_
  refine Go_sm rfl rfl (sm_f rfl) ?_
  refine Go_st rfl rfl ?_
  refine Go_call rfl (rm_isSlot1 _ d _ (pm_inn hi.1 hi.2)) (chkS rfl rfl rfl rfl) ?_
  refine Go_st rfl rfl ?_
  refine Go_ifF (by decide +kernel) ?_
  refine Go_st rfl rfl ?_
  refine Go_st rfl rfl ?_
  refine Go_st rfl rfl ?_
  refine Go_st rfl rfl ?_
  refine Go_call rfl (rm_in0 _ (d + 1) _ _ _ (pm_out hn)) (chkS rfl rfl rfl rfl) ?_
  refine Go_st rfl rfl ?_
  refine Go_ifT (by decide +kernel) ?_
  refine Go_st rfl rfl ?_
  exact Go_ret rfl ⟨_, rfl, rfl⟩
set_option maxRecDepth 20000 in
set_option maxHeartbeats 4000000 in
theorem rx_X8_row_g (d : Nat) (a1 a2 a3 : Int32) (hi : 0 ≤ a1.toInt ∧ a1.toInt ≤ 3) (hw : 0 ≤ a2.toInt ∧ a2.toInt ≤ 3) (hn : 60 < a3.toInt) : pm_Rt pm_P (d + 2) 85 hp0 [.ref 0, .int a1, .int a2, .int a3] hp0 (some (.int (-2))) := by
  refine Rt_of aiX8_row (Nat.le_of_ble_eq_true rfl) ?_
  refine Go_st rfl rfl ?_
  refine Go_call rfl (rx_isSlot1 _ d _ (of_decide_eq_false (pm_ltF hi.1)) (of_decide_eq_false (pm_leF (by have e4 : (4 : Int32).toInt = 4 := rfl; omega)))) (chkS rfl rfl rfl rfl) ?_
  refine Go_st rfl rfl ?_
  refine Go_ifF (by decide +kernel) ?_
  refine Go_st rfl rfl ?_
  refine Go_st rfl rfl ?_
  refine Go_ifF (pm_ltF hw.1) ?_
  refine Go_st rfl rfl ?_
  refine Go_st rfl rfl ?_
  refine Go_st rfl rfl ?_
  refine Go_ifF (pm_leF (by have e4 : (4 : Int32).toInt = 4 := rfl; omega)) ?_
  refine Go_st rfl rfl ?_
  refine Go_st rfl rfl ?_
  refine Go_st rfl rfl ?_
  refine Go_ifF (pm_leF hn) ?_
  refine Go_st rfl rfl ?_
  exact Go_ret rfl ⟨_, rfl, rfl⟩
set_option maxRecDepth 20000 in
set_option maxHeartbeats 4000000 in
theorem rm_X9_row_g (c : Nat → pm_E) (d : Nat) (a1 a2 a3 : Int32) (hi : 0 ≤ a1.toInt ∧ a1.toInt ≤ 3) (hw : 0 ≤ a2.toInt ∧ a2.toInt ≤ 3) (hn : 60 < a3.toInt) : pm_Rt pm_P (d + 3) 195 (hpm c) [.ref 77, .int a1, .int a2, .int a3] (hpm c) (some (.int (-2))) := by
  refine Rt_of aiX9_row (Nat.le_of_ble_eq_true rfl) ?_
  refine Go_st rfl rfl ?_
  refine Go_st rfl rfl ?_
  refine Go_sm rfl rfl (sm_f rfl) ?_
  refine Go_st rfl rfl ?_
  refine Go_call rfl (rm_isSlot1 _ d _ (pm_inn hi.1 hi.2)) (chkS rfl rfl rfl rfl) ?_
  refine Go_st rfl rfl ?_
  refine Go_ifF (by decide +kernel) ?_
  refine Go_st rfl rfl ?_
  refine Go_st rfl rfl ?_
  refine Go_st rfl rfl ?_
  refine Go_st rfl rfl ?_
  refine Go_call rfl (rm_in1 _ (d + 1) _ _ _ (pm_inn hw.1 hw.2)) (chkS rfl rfl rfl rfl) ?_
  refine Go_st rfl rfl ?_
  refine Go_ifF (by decide +kernel) ?_
  refine Go_st rfl rfl ?_
  refine Go_st rfl rfl ?_
  refine Go_st rfl rfl ?_
  refine Go_ifF (pm_leF hn) ?_
  refine Go_st rfl rfl ?_
  exact Go_ret rfl ⟨_, rfl, rfl⟩
set_option maxRecDepth 20000 in
set_option maxHeartbeats 4000000 in
theorem rx_X8_row_l (d : Nat) (a1 a2 a3 : Int32) (hi : 0 ≤ a1.toInt ∧ a1.toInt ≤ 3) (hw : 0 ≤ a2.toInt ∧ a2.toInt ≤ 3) (hn : a3.toInt < 0) : pm_Rt pm_P (d + 2) 85 hp0 [.ref 0, .int a1, .int a2, .int a3] hp0 (some (.int (-3))) := by
  refine Rt_of aiX8_row (Nat.le_of_ble_eq_true rfl) ?_
  refine Go_st rfl rfl ?_
  refine Go_call rfl (rx_isSlot1 _ d _ (of_decide_eq_false (pm_ltF hi.1)) (of_decide_eq_false (pm_leF (by have e4 : (4 : Int32).toInt = 4 := rfl; omega)))) (chkS rfl rfl rfl rfl) ?_
  refine Go_st rfl rfl ?_
  refine Go_ifF (by decide +kernel) ?_
  refine Go_st rfl rfl ?_
  refine Go_st rfl rfl ?_
  refine Go_ifF (pm_ltF hw.1) ?_
  refine Go_st rfl rfl ?_
  refine Go_st rfl rfl ?_
  refine Go_st rfl rfl ?_
  refine Go_ifF (pm_leF (by have e4 : (4 : Int32).toInt = 4 := rfl; omega)) ?_
  refine Go_st rfl rfl ?_
  refine Go_st rfl rfl ?_
  refine Go_st rfl rfl ?_
  refine Go_ifT (pm_leT (by have e : (60 : Int32).toInt = 60 := rfl; omega)) ?_
  refine Go_st rfl rfl ?_
  refine Go_st rfl rfl ?_
  refine Go_ifF (pm_leF hn) ?_
  refine Go_st rfl rfl ?_
  exact Go_ret rfl ⟨_, rfl, rfl⟩
set_option maxRecDepth 20000 in
set_option maxHeartbeats 4000000 in
theorem rm_X9_row_l (c : Nat → pm_E) (d : Nat) (a1 a2 a3 : Int32) (hi : 0 ≤ a1.toInt ∧ a1.toInt ≤ 3) (hw : 0 ≤ a2.toInt ∧ a2.toInt ≤ 3) (hn : a3.toInt < 0) : pm_Rt pm_P (d + 3) 195 (hpm c) [.ref 77, .int a1, .int a2, .int a3] (hpm c) (some (.int (-3))) := by
  refine Rt_of aiX9_row (Nat.le_of_ble_eq_true rfl) ?_
  refine Go_st rfl rfl ?_
  refine Go_st rfl rfl ?_
  refine Go_sm rfl rfl (sm_f rfl) ?_
  refine Go_st rfl rfl ?_
  refine Go_call rfl (rm_isSlot1 _ d _ (pm_inn hi.1 hi.2)) (chkS rfl rfl rfl rfl) ?_
  refine Go_st rfl rfl ?_
  refine Go_ifF (by decide +kernel) ?_
  refine Go_st rfl rfl ?_
  refine Go_st rfl rfl ?_
  refine Go_st rfl rfl ?_
  refine Go_st rfl rfl ?_
  refine Go_call rfl (rm_in1 _ (d + 1) _ _ _ (pm_inn hw.1 hw.2)) (chkS rfl rfl rfl rfl) ?_
  refine Go_st rfl rfl ?_
  refine Go_ifF (by decide +kernel) ?_
  refine Go_st rfl rfl ?_
  refine Go_st rfl rfl ?_
  refine Go_st rfl rfl ?_
  refine Go_ifT (pm_leT (by have e : (60 : Int32).toInt = 60 := rfl; omega)) ?_
  refine Go_st rfl rfl ?_
  refine Go_st rfl rfl ?_
  refine Go_ifF (pm_leF hn) ?_
  refine Go_st rfl rfl ?_
  exact Go_ret rfl ⟨_, rfl, rfl⟩
def hpB0 (w n : Int32) : pm_H := hp0.set 54 (.inr (4, [.ref 55, .int 1, .int w, .int n]))
set_option maxRecDepth 20000 in
set_option maxHeartbeats 4000000 in
theorem lp_begin0 (d : Nat) (w : Int32) (N : Nat) (hN : N ≤ 60) : ∀ k i : Nat, i + k = N → pm_Go (pm_at tX4_begin) (pm_Rt pm_P d) (17, [(3, .int (nI i)), (0, .ref 54), (1, .int w), (2, .int (nI N))], [], hpB0 w (nI N), 0, 0) (hpB0 w (nI N), none) := by
  intro k
  induction k with
  | zero =>
    intro i hi
    obtain rfl : i = N := by omega
    refine Go_st rfl rfl ?_
    refine Go_st rfl rfl ?_
    refine Go_st rfl rfl ?_
    refine Go_ifT (decide_eq_true (nI_le (Nat.le_refl _) (by omega))) ?_
    exact Go_ret rfl ⟨rfl, rfl⟩
  | succ k ih =>
    intro i hi
    refine Go_st rfl rfl ?_
    refine Go_st rfl rfl ?_
    refine Go_st rfl rfl ?_
    refine Go_ifF (decide_eq_false (nI_ge (by omega) (by omega))) ?_
    refine Go_st rfl rfl ?_
    refine Go_st rfl rfl ?_
    refine Go_st rfl rfl ?_
    refine Go_st rfl rfl ?_
    refine Go_last0 rfl rfl (pm_ixN (n := 60) (by omega) (by decide)) ?_
    refine Go_inc (v := nI (i + 1)) rfl rfl (nI_1 i) ?_
    refine Go_st rfl rfl ?_
    exact ih (i + 1) (by omega)
set_option maxRecDepth 20000 in
set_option maxHeartbeats 4000000 in
theorem rx_X4_begin0 (d : Nat) (w : Int32) (N : Nat) (hN : N ≤ 60) : pm_Rt pm_P (d + 1) 6 hp0 [.ref 54, .int w, .int (nI N)] (hpB0 w (nI N)) none := by
  refine Rt_of aiX4_begin (Nat.le_of_ble_eq_true rfl) ?_
  refine Go_st rfl rfl ?_
  refine Go_st rfl rfl ?_
  refine Go_st rfl rfl ?_
  refine Go_st rfl rfl ?_
  refine Go_st rfl rfl ?_
  refine Go_st rfl rfl ?_
  refine Go_st rfl rfl ?_
  refine Go_st rfl rfl ?_
  refine Go_st rfl rfl ?_
  refine Go_st rfl rfl ?_
  refine Go_st rfl rfl ?_
  exact lp_begin0 d w N hN N 0 (by omega)
set_option maxRecDepth 20000 in
set_option maxHeartbeats 4000000 in
theorem rx_X8_row_0 (d : Nat) (a2 : Int32) (N : Nat) (hN : N ≤ 60) (hw : 0 ≤ a2.toInt ∧ a2.toInt ≤ 3) : pm_Rt pm_P (d + 2) 85 hp0 [.ref 0, .int 0, .int a2, .int (nI N)] (hpB0 a2 (nI N)) (some (.int 0)) := by
  refine Rt_of aiX8_row (Nat.le_of_ble_eq_true rfl) ?_
  refine Go_st rfl rfl ?_
  refine Go_call rfl (rx_isSlot1 _ d _ (by decide +kernel) (by decide +kernel)) (chkS rfl rfl rfl rfl) ?_
  refine Go_st rfl rfl ?_
  refine Go_ifF (by decide +kernel) ?_
  refine Go_st rfl rfl ?_
  refine Go_st rfl rfl ?_
  refine Go_ifF (pm_ltF hw.1) ?_
  refine Go_st rfl rfl ?_
  refine Go_st rfl rfl ?_
  refine Go_st rfl rfl ?_
  refine Go_ifF (pm_leF (by have e4 : (4 : Int32).toInt = 4 := rfl; omega)) ?_
  refine Go_st rfl rfl ?_
  refine Go_st rfl rfl ?_
  refine Go_st rfl rfl ?_
  refine Go_ifT (pm_leT (by rw [nI_toInt (by omega)]; have e : (60 : Int32).toInt = 60 := rfl; omega)) ?_
  refine Go_st rfl rfl ?_
  refine Go_st rfl rfl ?_
  refine Go_ifT (pm_leT (by rw [nI_toInt (by omega)]; have e : (0 : Int32).toInt = 0 := rfl; omega)) ?_
  refine Go_st rfl rfl ?_
  refine Go_st rfl rfl ?_
  refine Go_st rfl rfl ?_
  refine Go_st rfl rfl ?_
  refine Go_st rfl rfl ?_
  refine Go_st rfl rfl ?_
  refine Go_call rfl (rx_X4_begin0 d _ N hN) (chkV rfl rfl rfl rfl rfl rfl) ?_
  refine Go_st rfl rfl ?_
  exact Go_ret rfl ⟨_, rfl, rfl⟩
def hpB1 (w n : Int32) : pm_H := hp0.set 56 (.inr (4, [.ref 57, .int 1, .int w, .int n]))
set_option maxRecDepth 20000 in
set_option maxHeartbeats 4000000 in
theorem lp_begin1 (d : Nat) (w : Int32) (N : Nat) (hN : N ≤ 60) : ∀ k i : Nat, i + k = N → pm_Go (pm_at tX4_begin) (pm_Rt pm_P d) (17, [(3, .int (nI i)), (0, .ref 56), (1, .int w), (2, .int (nI N))], [], hpB1 w (nI N), 0, 0) (hpB1 w (nI N), none) := by
  intro k
  induction k with
  | zero =>
    intro i hi
    obtain rfl : i = N := by omega
    refine Go_st rfl rfl ?_
    refine Go_st rfl rfl ?_
    refine Go_st rfl rfl ?_
    refine Go_ifT (decide_eq_true (nI_le (Nat.le_refl _) (by omega))) ?_
    exact Go_ret rfl ⟨rfl, rfl⟩
  | succ k ih =>
    intro i hi
    refine Go_st rfl rfl ?_
    refine Go_st rfl rfl ?_
    refine Go_st rfl rfl ?_
    refine Go_ifF (decide_eq_false (nI_ge (by omega) (by omega))) ?_
    refine Go_st rfl rfl ?_
    refine Go_st rfl rfl ?_
    refine Go_st rfl rfl ?_
    refine Go_st rfl rfl ?_
    refine Go_last0 rfl rfl (pm_ixN (n := 60) (by omega) (by decide)) ?_
    refine Go_inc (v := nI (i + 1)) rfl rfl (nI_1 i) ?_
    refine Go_st rfl rfl ?_
    exact ih (i + 1) (by omega)
set_option maxRecDepth 20000 in
set_option maxHeartbeats 4000000 in
theorem rx_X4_begin1 (d : Nat) (w : Int32) (N : Nat) (hN : N ≤ 60) : pm_Rt pm_P (d + 1) 6 hp0 [.ref 56, .int w, .int (nI N)] (hpB1 w (nI N)) none := by
  refine Rt_of aiX4_begin (Nat.le_of_ble_eq_true rfl) ?_
  refine Go_st rfl rfl ?_
  refine Go_st rfl rfl ?_
  refine Go_st rfl rfl ?_
  refine Go_st rfl rfl ?_
  refine Go_st rfl rfl ?_
  refine Go_st rfl rfl ?_
  refine Go_st rfl rfl ?_
  refine Go_st rfl rfl ?_
  refine Go_st rfl rfl ?_
  refine Go_st rfl rfl ?_
  refine Go_st rfl rfl ?_
  exact lp_begin1 d w N hN N 0 (by omega)
set_option maxRecDepth 20000 in
set_option maxHeartbeats 4000000 in
theorem rx_X8_row_1 (d : Nat) (a2 : Int32) (N : Nat) (hN : N ≤ 60) (hw : 0 ≤ a2.toInt ∧ a2.toInt ≤ 3) : pm_Rt pm_P (d + 2) 85 hp0 [.ref 0, .int 1, .int a2, .int (nI N)] (hpB1 a2 (nI N)) (some (.int 0)) := by
  refine Rt_of aiX8_row (Nat.le_of_ble_eq_true rfl) ?_
  refine Go_st rfl rfl ?_
  refine Go_call rfl (rx_isSlot1 _ d _ (by decide +kernel) (by decide +kernel)) (chkS rfl rfl rfl rfl) ?_
  refine Go_st rfl rfl ?_
  refine Go_ifF (by decide +kernel) ?_
  refine Go_st rfl rfl ?_
  refine Go_st rfl rfl ?_
  refine Go_ifF (pm_ltF hw.1) ?_
  refine Go_st rfl rfl ?_
  refine Go_st rfl rfl ?_
  refine Go_st rfl rfl ?_
  refine Go_ifF (pm_leF (by have e4 : (4 : Int32).toInt = 4 := rfl; omega)) ?_
  refine Go_st rfl rfl ?_
  refine Go_st rfl rfl ?_
  refine Go_st rfl rfl ?_
  refine Go_ifT (pm_leT (by rw [nI_toInt (by omega)]; have e : (60 : Int32).toInt = 60 := rfl; omega)) ?_
  refine Go_st rfl rfl ?_
  refine Go_st rfl rfl ?_
  refine Go_ifT (pm_leT (by rw [nI_toInt (by omega)]; have e : (0 : Int32).toInt = 0 := rfl; omega)) ?_
  refine Go_st rfl rfl ?_
  refine Go_st rfl rfl ?_
  refine Go_st rfl rfl ?_
  refine Go_st rfl rfl ?_
  refine Go_st rfl rfl ?_
  refine Go_st rfl rfl ?_
  refine Go_call rfl (rx_X4_begin1 d _ N hN) (chkV rfl rfl rfl rfl rfl rfl) ?_
  refine Go_st rfl rfl ?_
  exact Go_ret rfl ⟨_, rfl, rfl⟩
def hpB2 (w n : Int32) : pm_H := hp0.set 58 (.inr (4, [.ref 59, .int 1, .int w, .int n]))
set_option maxRecDepth 20000 in
set_option maxHeartbeats 4000000 in
theorem lp_begin2 (d : Nat) (w : Int32) (N : Nat) (hN : N ≤ 60) : ∀ k i : Nat, i + k = N → pm_Go (pm_at tX4_begin) (pm_Rt pm_P d) (17, [(3, .int (nI i)), (0, .ref 58), (1, .int w), (2, .int (nI N))], [], hpB2 w (nI N), 0, 0) (hpB2 w (nI N), none) := by
  intro k
  induction k with
  | zero =>
    intro i hi
    obtain rfl : i = N := by omega
    refine Go_st rfl rfl ?_
    refine Go_st rfl rfl ?_
    refine Go_st rfl rfl ?_
    refine Go_ifT (decide_eq_true (nI_le (Nat.le_refl _) (by omega))) ?_
    exact Go_ret rfl ⟨rfl, rfl⟩
  | succ k ih =>
    intro i hi
    refine Go_st rfl rfl ?_
    refine Go_st rfl rfl ?_
    refine Go_st rfl rfl ?_
    refine Go_ifF (decide_eq_false (nI_ge (by omega) (by omega))) ?_
    refine Go_st rfl rfl ?_
    refine Go_st rfl rfl ?_
    refine Go_st rfl rfl ?_
    refine Go_st rfl rfl ?_
    refine Go_last0 rfl rfl (pm_ixN (n := 60) (by omega) (by decide)) ?_
    refine Go_inc (v := nI (i + 1)) rfl rfl (nI_1 i) ?_
    refine Go_st rfl rfl ?_
    exact ih (i + 1) (by omega)
set_option maxRecDepth 20000 in
set_option maxHeartbeats 4000000 in
theorem rx_X4_begin2 (d : Nat) (w : Int32) (N : Nat) (hN : N ≤ 60) : pm_Rt pm_P (d + 1) 6 hp0 [.ref 58, .int w, .int (nI N)] (hpB2 w (nI N)) none := by
  refine Rt_of aiX4_begin (Nat.le_of_ble_eq_true rfl) ?_
  refine Go_st rfl rfl ?_
  refine Go_st rfl rfl ?_
  refine Go_st rfl rfl ?_
  refine Go_st rfl rfl ?_
  refine Go_st rfl rfl ?_
  refine Go_st rfl rfl ?_
  refine Go_st rfl rfl ?_
  refine Go_st rfl rfl ?_
  refine Go_st rfl rfl ?_
  refine Go_st rfl rfl ?_
  refine Go_st rfl rfl ?_
  exact lp_begin2 d w N hN N 0 (by omega)
set_option maxRecDepth 20000 in
set_option maxHeartbeats 4000000 in
theorem rx_X8_row_2 (d : Nat) (a2 : Int32) (N : Nat) (hN : N ≤ 60) (hw : 0 ≤ a2.toInt ∧ a2.toInt ≤ 3) : pm_Rt pm_P (d + 2) 85 hp0 [.ref 0, .int 2, .int a2, .int (nI N)] (hpB2 a2 (nI N)) (some (.int 0)) := by
  refine Rt_of aiX8_row (Nat.le_of_ble_eq_true rfl) ?_
  refine Go_st rfl rfl ?_
  refine Go_call rfl (rx_isSlot1 _ d _ (by decide +kernel) (by decide +kernel)) (chkS rfl rfl rfl rfl) ?_
  refine Go_st rfl rfl ?_
  refine Go_ifF (by decide +kernel) ?_
  refine Go_st rfl rfl ?_
  refine Go_st rfl rfl ?_
  refine Go_ifF (pm_ltF hw.1) ?_
  refine Go_st rfl rfl ?_
  refine Go_st rfl rfl ?_
  refine Go_st rfl rfl ?_
  refine Go_ifF (pm_leF (by have e4 : (4 : Int32).toInt = 4 := rfl; omega)) ?_
  refine Go_st rfl rfl ?_
  refine Go_st rfl rfl ?_
  refine Go_st rfl rfl ?_
  refine Go_ifT (pm_leT (by rw [nI_toInt (by omega)]; have e : (60 : Int32).toInt = 60 := rfl; omega)) ?_
  refine Go_st rfl rfl ?_
  refine Go_st rfl rfl ?_
  refine Go_ifT (pm_leT (by rw [nI_toInt (by omega)]; have e : (0 : Int32).toInt = 0 := rfl; omega)) ?_
  refine Go_st rfl rfl ?_
  refine Go_st rfl rfl ?_
  refine Go_st rfl rfl ?_
  refine Go_st rfl rfl ?_
  refine Go_st rfl rfl ?_
  refine Go_st rfl rfl ?_
  refine Go_call rfl (rx_X4_begin2 d _ N hN) (chkV rfl rfl rfl rfl rfl rfl) ?_
  refine Go_st rfl rfl ?_
  exact Go_ret rfl ⟨_, rfl, rfl⟩
def hpB3 (w n : Int32) : pm_H := hp0.set 60 (.inr (4, [.ref 61, .int 1, .int w, .int n]))
set_option maxRecDepth 20000 in
set_option maxHeartbeats 4000000 in
theorem lp_begin3 (d : Nat) (w : Int32) (N : Nat) (hN : N ≤ 60) : ∀ k i : Nat, i + k = N → pm_Go (pm_at tX4_begin) (pm_Rt pm_P d) (17, [(3, .int (nI i)), (0, .ref 60), (1, .int w), (2, .int (nI N))], [], hpB3 w (nI N), 0, 0) (hpB3 w (nI N), none) := by
  intro k
  induction k with
  | zero =>
    intro i hi
    obtain rfl : i = N := by omega
    refine Go_st rfl rfl ?_
    refine Go_st rfl rfl ?_
    refine Go_st rfl rfl ?_
    refine Go_ifT (decide_eq_true (nI_le (Nat.le_refl _) (by omega))) ?_
    exact Go_ret rfl ⟨rfl, rfl⟩
  | succ k ih =>
    intro i hi
    refine Go_st rfl rfl ?_
    refine Go_st rfl rfl ?_
    refine Go_st rfl rfl ?_
    refine Go_ifF (decide_eq_false (nI_ge (by omega) (by omega))) ?_
    refine Go_st rfl rfl ?_
    refine Go_st rfl rfl ?_
    refine Go_st rfl rfl ?_
    refine Go_st rfl rfl ?_
    refine Go_last0 rfl rfl (pm_ixN (n := 60) (by omega) (by decide)) ?_
    refine Go_inc (v := nI (i + 1)) rfl rfl (nI_1 i) ?_
    refine Go_st rfl rfl ?_
    exact ih (i + 1) (by omega)
set_option maxRecDepth 20000 in
set_option maxHeartbeats 4000000 in
theorem rx_X4_begin3 (d : Nat) (w : Int32) (N : Nat) (hN : N ≤ 60) : pm_Rt pm_P (d + 1) 6 hp0 [.ref 60, .int w, .int (nI N)] (hpB3 w (nI N)) none := by
  refine Rt_of aiX4_begin (Nat.le_of_ble_eq_true rfl) ?_
  refine Go_st rfl rfl ?_
  refine Go_st rfl rfl ?_
  refine Go_st rfl rfl ?_
  refine Go_st rfl rfl ?_
  refine Go_st rfl rfl ?_
  refine Go_st rfl rfl ?_
  refine Go_st rfl rfl ?_
  refine Go_st rfl rfl ?_
  refine Go_st rfl rfl ?_
  refine Go_st rfl rfl ?_
  refine Go_st rfl rfl ?_
  exact lp_begin3 d w N hN N 0 (by omega)
set_option maxRecDepth 20000 in
set_option maxHeartbeats 4000000 in
theorem rx_X8_row_3 (d : Nat) (a2 : Int32) (N : Nat) (hN : N ≤ 60) (hw : 0 ≤ a2.toInt ∧ a2.toInt ≤ 3) : pm_Rt pm_P (d + 2) 85 hp0 [.ref 0, .int 3, .int a2, .int (nI N)] (hpB3 a2 (nI N)) (some (.int 0)) := by
  refine Rt_of aiX8_row (Nat.le_of_ble_eq_true rfl) ?_
  refine Go_st rfl rfl ?_
  refine Go_call rfl (rx_isSlot1 _ d _ (by decide +kernel) (by decide +kernel)) (chkS rfl rfl rfl rfl) ?_
  refine Go_st rfl rfl ?_
  refine Go_ifF (by decide +kernel) ?_
  refine Go_st rfl rfl ?_
  refine Go_st rfl rfl ?_
  refine Go_ifF (pm_ltF hw.1) ?_
  refine Go_st rfl rfl ?_
  refine Go_st rfl rfl ?_
  refine Go_st rfl rfl ?_
  refine Go_ifF (pm_leF (by have e4 : (4 : Int32).toInt = 4 := rfl; omega)) ?_
  refine Go_st rfl rfl ?_
  refine Go_st rfl rfl ?_
  refine Go_st rfl rfl ?_
  refine Go_ifT (pm_leT (by rw [nI_toInt (by omega)]; have e : (60 : Int32).toInt = 60 := rfl; omega)) ?_
  refine Go_st rfl rfl ?_
  refine Go_st rfl rfl ?_
  refine Go_ifT (pm_leT (by rw [nI_toInt (by omega)]; have e : (0 : Int32).toInt = 0 := rfl; omega)) ?_
  refine Go_st rfl rfl ?_
  refine Go_st rfl rfl ?_
  refine Go_st rfl rfl ?_
  refine Go_st rfl rfl ?_
  refine Go_st rfl rfl ?_
  refine Go_st rfl rfl ?_
  refine Go_call rfl (rx_X4_begin3 d _ N hN) (chkV rfl rfl rfl rfl rfl rfl) ?_
  refine Go_st rfl rfl ?_
  exact Go_ret rfl ⟨_, rfl, rfl⟩
def hpR (c : Nat → pm_E) (f g : Nat → Int32) : pm_H := ((hpm c).set 78 (.inl (0, 4, .inl f))).set 79 (.inl (0, 4, .inl g))
set_option maxRecDepth 20000 in
set_option maxHeartbeats 4000000 in
theorem lp_row0 (c : Nat → pm_E) (d : Nat) (f g : Nat → Int32) (w : Int32) (N : Nat) (hN : N ≤ 60) : ∀ k i : Nat, i + k = N → pm_Go (pm_at tX9_row) (pm_Rt pm_P d) (57, [(4, .int (nI i)), (0, .ref 77), (1, .int 0), (2, .int w), (3, .int (nI N))], [], hpR c f g, 0, 0) (hpR c f g, some (.int 0)) := by
  intro k
  induction k with
  | zero =>
    intro i hi
    obtain rfl : i = N := by omega
    refine Go_st rfl rfl ?_
    refine Go_st rfl rfl ?_
    refine Go_st rfl rfl ?_
    refine Go_ifT (decide_eq_true (nI_le (Nat.le_refl _) (by omega))) ?_
    refine Go_st rfl rfl ?_
    exact Go_ret rfl ⟨_, rfl, rfl⟩
  | succ k ih =>
    intro i hi
    refine Go_st rfl rfl ?_
    refine Go_st rfl rfl ?_
    refine Go_st rfl rfl ?_
    refine Go_ifF (decide_eq_false (nI_ge (by omega) (by omega))) ?_
    refine Go_st rfl rfl ?_
    refine Go_st rfl rfl ?_
    refine Go_st rfl rfl ?_
    refine Go_st rfl rfl ?_
    refine Go_bin (v := nI 0) rfl (by decide +kernel) ?_
    refine Go_st rfl rfl ?_
    refine Go_bin (v := nI (0 + i)) rfl (nI_add 0 i) ?_
    refine Go_st rfl rfl ?_
    refine Go_last0 rfl rfl (pm_ixN (n := 240) (by omega) (by decide)) ?_
    refine Go_inc (v := nI (i + 1)) rfl rfl (nI_1 i) ?_
    refine Go_st rfl rfl ?_
    exact ih (i + 1) (by omega)
set_option maxRecDepth 20000 in
set_option maxHeartbeats 4000000 in
theorem rm_X9_row_0 (c : Nat → pm_E) (d : Nat) (a2 : Int32) (N : Nat) (hN : N ≤ 60) (hw : 0 ≤ a2.toInt ∧ a2.toInt ≤ 3) : ∃ h2, pm_Rt pm_P (d + 3) 195 (hpm c) [.ref 77, .int 0, .int a2, .int (nI N)] h2 (some (.int 0)) := by
  refine ⟨hpR c (upd (upd (upd (upd (upd (fun _ => 0) 0 (-1)) 1 (-1)) 2 (-1)) 3 (-1)) (Int32.toNatClampNeg 0) a2) (upd (fun _ => 0) (Int32.toNatClampNeg 0) (nI N)), Rt_of aiX9_row (Nat.le_of_ble_eq_true rfl) ?_⟩
  refine Go_st rfl rfl ?_
  refine Go_st rfl rfl ?_
  refine Go_sm rfl rfl (sm_f rfl) ?_
  refine Go_st rfl rfl ?_
  refine Go_call rfl (rm_isSlot1 _ d _ (by decide +kernel)) (chkS rfl rfl rfl rfl) ?_
  refine Go_st rfl rfl ?_
  refine Go_ifF (by decide +kernel) ?_
  refine Go_st rfl rfl ?_
  refine Go_st rfl rfl ?_
  refine Go_st rfl rfl ?_
  refine Go_st rfl rfl ?_
  refine Go_call rfl (rm_in1 _ (d + 1) _ _ _ (pm_inn hw.1 hw.2)) (chkS rfl rfl rfl rfl) ?_
  refine Go_st rfl rfl ?_
  refine Go_ifF (by decide +kernel) ?_
  refine Go_st rfl rfl ?_
  refine Go_st rfl rfl ?_
  refine Go_st rfl rfl ?_
  refine Go_ifT (pm_leT (by rw [nI_toInt (by omega)]; have e : (60 : Int32).toInt = 60 := rfl; omega)) ?_
  refine Go_st rfl rfl ?_
  refine Go_st rfl rfl ?_
  refine Go_ifT (pm_leT (by rw [nI_toInt (by omega)]; have e : (0 : Int32).toInt = 0 := rfl; omega)) ?_
  refine Go_st rfl rfl ?_
  refine Go_st rfl rfl ?_
  refine Go_st rfl rfl ?_
  refine Go_st rfl rfl ?_
  refine Go_st rfl rfl ?_
  refine Go_st rfl rfl ?_
  refine Go_st rfl rfl ?_
  refine Go_st rfl rfl ?_
  refine Go_st rfl rfl ?_
  refine Go_st rfl rfl ?_
  refine Go_st rfl rfl ?_
  refine Go_st rfl rfl ?_
  exact lp_row0 c (d + 2) _ _ a2 N hN N 0 (by omega)
set_option maxRecDepth 20000 in
set_option maxHeartbeats 4000000 in
theorem lp_row1 (c : Nat → pm_E) (d : Nat) (f g : Nat → Int32) (w : Int32) (N : Nat) (hN : N ≤ 60) : ∀ k i : Nat, i + k = N → pm_Go (pm_at tX9_row) (pm_Rt pm_P d) (57, [(4, .int (nI i)), (0, .ref 77), (1, .int 1), (2, .int w), (3, .int (nI N))], [], hpR c f g, 0, 0) (hpR c f g, some (.int 0)) := by
  intro k
  induction k with
  | zero =>
    intro i hi
    obtain rfl : i = N := by omega
    refine Go_st rfl rfl ?_
    refine Go_st rfl rfl ?_
    refine Go_st rfl rfl ?_
    refine Go_ifT (decide_eq_true (nI_le (Nat.le_refl _) (by omega))) ?_
    refine Go_st rfl rfl ?_
    exact Go_ret rfl ⟨_, rfl, rfl⟩
  | succ k ih =>
    intro i hi
    refine Go_st rfl rfl ?_
    refine Go_st rfl rfl ?_
    refine Go_st rfl rfl ?_
    refine Go_ifF (decide_eq_false (nI_ge (by omega) (by omega))) ?_
    refine Go_st rfl rfl ?_
    refine Go_st rfl rfl ?_
    refine Go_st rfl rfl ?_
    refine Go_st rfl rfl ?_
    refine Go_bin (v := nI 60) rfl (by decide +kernel) ?_
    refine Go_st rfl rfl ?_
    refine Go_bin (v := nI (60 + i)) rfl (nI_add 60 i) ?_
    refine Go_st rfl rfl ?_
    refine Go_last0 rfl rfl (pm_ixN (n := 240) (by omega) (by decide)) ?_
    refine Go_inc (v := nI (i + 1)) rfl rfl (nI_1 i) ?_
    refine Go_st rfl rfl ?_
    exact ih (i + 1) (by omega)
set_option maxRecDepth 20000 in
set_option maxHeartbeats 4000000 in
theorem rm_X9_row_1 (c : Nat → pm_E) (d : Nat) (a2 : Int32) (N : Nat) (hN : N ≤ 60) (hw : 0 ≤ a2.toInt ∧ a2.toInt ≤ 3) : ∃ h2, pm_Rt pm_P (d + 3) 195 (hpm c) [.ref 77, .int 1, .int a2, .int (nI N)] h2 (some (.int 0)) := by
  refine ⟨hpR c (upd (upd (upd (upd (upd (fun _ => 0) 0 (-1)) 1 (-1)) 2 (-1)) 3 (-1)) (Int32.toNatClampNeg 1) a2) (upd (fun _ => 0) (Int32.toNatClampNeg 1) (nI N)), Rt_of aiX9_row (Nat.le_of_ble_eq_true rfl) ?_⟩
  refine Go_st rfl rfl ?_
  refine Go_st rfl rfl ?_
  refine Go_sm rfl rfl (sm_f rfl) ?_
  refine Go_st rfl rfl ?_
  refine Go_call rfl (rm_isSlot1 _ d _ (by decide +kernel)) (chkS rfl rfl rfl rfl) ?_
  refine Go_st rfl rfl ?_
  refine Go_ifF (by decide +kernel) ?_
  refine Go_st rfl rfl ?_
  refine Go_st rfl rfl ?_
  refine Go_st rfl rfl ?_
  refine Go_st rfl rfl ?_
  refine Go_call rfl (rm_in1 _ (d + 1) _ _ _ (pm_inn hw.1 hw.2)) (chkS rfl rfl rfl rfl) ?_
  refine Go_st rfl rfl ?_
  refine Go_ifF (by decide +kernel) ?_
  refine Go_st rfl rfl ?_
  refine Go_st rfl rfl ?_
  refine Go_st rfl rfl ?_
  refine Go_ifT (pm_leT (by rw [nI_toInt (by omega)]; have e : (60 : Int32).toInt = 60 := rfl; omega)) ?_
  refine Go_st rfl rfl ?_
  refine Go_st rfl rfl ?_
  refine Go_ifT (pm_leT (by rw [nI_toInt (by omega)]; have e : (0 : Int32).toInt = 0 := rfl; omega)) ?_
  refine Go_st rfl rfl ?_
  refine Go_st rfl rfl ?_
  refine Go_st rfl rfl ?_
  refine Go_st rfl rfl ?_
  refine Go_st rfl rfl ?_
  refine Go_st rfl rfl ?_
  refine Go_st rfl rfl ?_
  refine Go_st rfl rfl ?_
  refine Go_st rfl rfl ?_
  refine Go_st rfl rfl ?_
  refine Go_st rfl rfl ?_
  refine Go_st rfl rfl ?_
  exact lp_row1 c (d + 2) _ _ a2 N hN N 0 (by omega)
set_option maxRecDepth 20000 in
set_option maxHeartbeats 4000000 in
theorem lp_row2 (c : Nat → pm_E) (d : Nat) (f g : Nat → Int32) (w : Int32) (N : Nat) (hN : N ≤ 60) : ∀ k i : Nat, i + k = N → pm_Go (pm_at tX9_row) (pm_Rt pm_P d) (57, [(4, .int (nI i)), (0, .ref 77), (1, .int 2), (2, .int w), (3, .int (nI N))], [], hpR c f g, 0, 0) (hpR c f g, some (.int 0)) := by
  intro k
  induction k with
  | zero =>
    intro i hi
    obtain rfl : i = N := by omega
    refine Go_st rfl rfl ?_
    refine Go_st rfl rfl ?_
    refine Go_st rfl rfl ?_
    refine Go_ifT (decide_eq_true (nI_le (Nat.le_refl _) (by omega))) ?_
    refine Go_st rfl rfl ?_
    exact Go_ret rfl ⟨_, rfl, rfl⟩
  | succ k ih =>
    intro i hi
    refine Go_st rfl rfl ?_
    refine Go_st rfl rfl ?_
    refine Go_st rfl rfl ?_
    refine Go_ifF (decide_eq_false (nI_ge (by omega) (by omega))) ?_
    refine Go_st rfl rfl ?_
    refine Go_st rfl rfl ?_
    refine Go_st rfl rfl ?_
    refine Go_st rfl rfl ?_
    refine Go_bin (v := nI 120) rfl (by decide +kernel) ?_
    refine Go_st rfl rfl ?_
    refine Go_bin (v := nI (120 + i)) rfl (nI_add 120 i) ?_
    refine Go_st rfl rfl ?_
    refine Go_last0 rfl rfl (pm_ixN (n := 240) (by omega) (by decide)) ?_
    refine Go_inc (v := nI (i + 1)) rfl rfl (nI_1 i) ?_
    refine Go_st rfl rfl ?_
    exact ih (i + 1) (by omega)
set_option maxRecDepth 20000 in
set_option maxHeartbeats 4000000 in
theorem rm_X9_row_2 (c : Nat → pm_E) (d : Nat) (a2 : Int32) (N : Nat) (hN : N ≤ 60) (hw : 0 ≤ a2.toInt ∧ a2.toInt ≤ 3) : ∃ h2, pm_Rt pm_P (d + 3) 195 (hpm c) [.ref 77, .int 2, .int a2, .int (nI N)] h2 (some (.int 0)) := by
  refine ⟨hpR c (upd (upd (upd (upd (upd (fun _ => 0) 0 (-1)) 1 (-1)) 2 (-1)) 3 (-1)) (Int32.toNatClampNeg 2) a2) (upd (fun _ => 0) (Int32.toNatClampNeg 2) (nI N)), Rt_of aiX9_row (Nat.le_of_ble_eq_true rfl) ?_⟩
  refine Go_st rfl rfl ?_
  refine Go_st rfl rfl ?_
  refine Go_sm rfl rfl (sm_f rfl) ?_
  refine Go_st rfl rfl ?_
  refine Go_call rfl (rm_isSlot1 _ d _ (by decide +kernel)) (chkS rfl rfl rfl rfl) ?_
  refine Go_st rfl rfl ?_
  refine Go_ifF (by decide +kernel) ?_
  refine Go_st rfl rfl ?_
  refine Go_st rfl rfl ?_
  refine Go_st rfl rfl ?_
  refine Go_st rfl rfl ?_
  refine Go_call rfl (rm_in1 _ (d + 1) _ _ _ (pm_inn hw.1 hw.2)) (chkS rfl rfl rfl rfl) ?_
  refine Go_st rfl rfl ?_
  refine Go_ifF (by decide +kernel) ?_
  refine Go_st rfl rfl ?_
  refine Go_st rfl rfl ?_
  refine Go_st rfl rfl ?_
  refine Go_ifT (pm_leT (by rw [nI_toInt (by omega)]; have e : (60 : Int32).toInt = 60 := rfl; omega)) ?_
  refine Go_st rfl rfl ?_
  refine Go_st rfl rfl ?_
  refine Go_ifT (pm_leT (by rw [nI_toInt (by omega)]; have e : (0 : Int32).toInt = 0 := rfl; omega)) ?_
  refine Go_st rfl rfl ?_
  refine Go_st rfl rfl ?_
  refine Go_st rfl rfl ?_
  refine Go_st rfl rfl ?_
  refine Go_st rfl rfl ?_
  refine Go_st rfl rfl ?_
  refine Go_st rfl rfl ?_
  refine Go_st rfl rfl ?_
  refine Go_st rfl rfl ?_
  refine Go_st rfl rfl ?_
  refine Go_st rfl rfl ?_
  refine Go_st rfl rfl ?_
  exact lp_row2 c (d + 2) _ _ a2 N hN N 0 (by omega)
set_option maxRecDepth 20000 in
set_option maxHeartbeats 4000000 in
theorem lp_row3 (c : Nat → pm_E) (d : Nat) (f g : Nat → Int32) (w : Int32) (N : Nat) (hN : N ≤ 60) : ∀ k i : Nat, i + k = N → pm_Go (pm_at tX9_row) (pm_Rt pm_P d) (57, [(4, .int (nI i)), (0, .ref 77), (1, .int 3), (2, .int w), (3, .int (nI N))], [], hpR c f g, 0, 0) (hpR c f g, some (.int 0)) := by
  intro k
  induction k with
  | zero =>
    intro i hi
    obtain rfl : i = N := by omega
    refine Go_st rfl rfl ?_
    refine Go_st rfl rfl ?_
    refine Go_st rfl rfl ?_
    refine Go_ifT (decide_eq_true (nI_le (Nat.le_refl _) (by omega))) ?_
    refine Go_st rfl rfl ?_
    exact Go_ret rfl ⟨_, rfl, rfl⟩
  | succ k ih =>
    intro i hi
    refine Go_st rfl rfl ?_
    refine Go_st rfl rfl ?_
    refine Go_st rfl rfl ?_
    refine Go_ifF (decide_eq_false (nI_ge (by omega) (by omega))) ?_
    refine Go_st rfl rfl ?_
    refine Go_st rfl rfl ?_
    refine Go_st rfl rfl ?_
    refine Go_st rfl rfl ?_
    refine Go_bin (v := nI 180) rfl (by decide +kernel) ?_
    refine Go_st rfl rfl ?_
    refine Go_bin (v := nI (180 + i)) rfl (nI_add 180 i) ?_
    refine Go_st rfl rfl ?_
    refine Go_last0 rfl rfl (pm_ixN (n := 240) (by omega) (by decide)) ?_
    refine Go_inc (v := nI (i + 1)) rfl rfl (nI_1 i) ?_
    refine Go_st rfl rfl ?_
    exact ih (i + 1) (by omega)
set_option maxRecDepth 20000 in
set_option maxHeartbeats 4000000 in
theorem rm_X9_row_3 (c : Nat → pm_E) (d : Nat) (a2 : Int32) (N : Nat) (hN : N ≤ 60) (hw : 0 ≤ a2.toInt ∧ a2.toInt ≤ 3) : ∃ h2, pm_Rt pm_P (d + 3) 195 (hpm c) [.ref 77, .int 3, .int a2, .int (nI N)] h2 (some (.int 0)) := by
  refine ⟨hpR c (upd (upd (upd (upd (upd (fun _ => 0) 0 (-1)) 1 (-1)) 2 (-1)) 3 (-1)) (Int32.toNatClampNeg 3) a2) (upd (fun _ => 0) (Int32.toNatClampNeg 3) (nI N)), Rt_of aiX9_row (Nat.le_of_ble_eq_true rfl) ?_⟩
  refine Go_st rfl rfl ?_
  refine Go_st rfl rfl ?_
  refine Go_sm rfl rfl (sm_f rfl) ?_
  refine Go_st rfl rfl ?_
  refine Go_call rfl (rm_isSlot1 _ d _ (by decide +kernel)) (chkS rfl rfl rfl rfl) ?_
  refine Go_st rfl rfl ?_
  refine Go_ifF (by decide +kernel) ?_
  refine Go_st rfl rfl ?_
  refine Go_st rfl rfl ?_
  refine Go_st rfl rfl ?_
  refine Go_st rfl rfl ?_
  refine Go_call rfl (rm_in1 _ (d + 1) _ _ _ (pm_inn hw.1 hw.2)) (chkS rfl rfl rfl rfl) ?_
  refine Go_st rfl rfl ?_
  refine Go_ifF (by decide +kernel) ?_
  refine Go_st rfl rfl ?_
  refine Go_st rfl rfl ?_
  refine Go_st rfl rfl ?_
  refine Go_ifT (pm_leT (by rw [nI_toInt (by omega)]; have e : (60 : Int32).toInt = 60 := rfl; omega)) ?_
  refine Go_st rfl rfl ?_
  refine Go_st rfl rfl ?_
  refine Go_ifT (pm_leT (by rw [nI_toInt (by omega)]; have e : (0 : Int32).toInt = 0 := rfl; omega)) ?_
  refine Go_st rfl rfl ?_
  refine Go_st rfl rfl ?_
  refine Go_st rfl rfl ?_
  refine Go_st rfl rfl ?_
  refine Go_st rfl rfl ?_
  refine Go_st rfl rfl ?_
  refine Go_st rfl rfl ?_
  refine Go_st rfl rfl ?_
  refine Go_st rfl rfl ?_
  refine Go_st rfl rfl ?_
  refine Go_st rfl rfl ?_
  refine Go_st rfl rfl ?_
  exact lp_row3 c (d + 2) _ _ a2 N hN N 0 (by omega)
