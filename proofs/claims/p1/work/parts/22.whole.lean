/-! p1: the law on every script of at most six ints (written by gen_law.py) -/
theorem Go_tswI {look : Nat → Option pm_I} {call : pm_Call} {pc dd t : Nat} {lo hi : Int} {ts : List Nat} {x : Int32} {lv : List (Nat × Value)} {st : List Value} {w : pm_H × Nat × Nat} {o : pm_H × Option Value} (h1 : look pc = some (.inl (s_tsw lo hi ts dd))) (hz : (decide (x.toInt < lo) || decide (hi < x.toInt)) = false) (ht : ts[(x.toInt - lo).toNat]? = some t) (k : pm_Go look call (t, lv, st, w) o) : pm_Go look call (pc, lv, .int x :: st, w) o :=
  Go_st h1 (by simp only [s_tsw, hz, cond_false, ht]) k
set_option maxRecDepth 20000 in
set_option maxHeartbeats 4000000 in
theorem sw_0 (xs : Nat → Int32) : ∃ h2, pm_Go (pm_tr (lb_all 6 xs)) (pm_Rt pm_P 8) (33, [(3, .int 0), (2, .ref 77), (1, .ref 0), (0, .retAddr 0)], [.int (nI 0)], hp0, 599897, 7298671) (h2, some (.int 1)) := by
  obtain ⟨h2, e⟩ := law_0 xs
  exact ⟨h2, Go_tswI rfl (by decide +kernel) (by decide +kernel) e⟩
set_option maxRecDepth 20000 in
set_option maxHeartbeats 4000000 in
theorem sw_1 (xs : Nat → Int32) : ∃ h2, pm_Go (pm_tr (lb_all 6 xs)) (pm_Rt pm_P 8) (33, [(3, .int 0), (2, .ref 77), (1, .ref 0), (0, .retAddr 0)], [.int (nI 1)], hp0, 599897, 7298671) (h2, some (.int 1)) := by
  obtain ⟨h2, e⟩ := law_1 xs
  exact ⟨h2, Go_tswI rfl (by decide +kernel) (by decide +kernel) e⟩
set_option maxRecDepth 20000 in
set_option maxHeartbeats 4000000 in
theorem sw_2 (xs : Nat → Int32) : ∃ h2, pm_Go (pm_tr (lb_all 6 xs)) (pm_Rt pm_P 8) (33, [(3, .int 0), (2, .ref 77), (1, .ref 0), (0, .retAddr 0)], [.int (nI 2)], hp0, 599897, 7298671) (h2, some (.int 1)) := by
  obtain ⟨h2, e⟩ := law_2 xs
  exact ⟨h2, Go_tswI rfl (by decide +kernel) (by decide +kernel) e⟩
set_option maxRecDepth 20000 in
set_option maxHeartbeats 4000000 in
theorem sw_3 (xs : Nat → Int32) : ∃ h2, pm_Go (pm_tr (lb_all 6 xs)) (pm_Rt pm_P 8) (33, [(3, .int 0), (2, .ref 77), (1, .ref 0), (0, .retAddr 0)], [.int (nI 3)], hp0, 599897, 7298671) (h2, some (.int 1)) := by
  obtain ⟨h2, e⟩ := law_3 xs
  exact ⟨h2, Go_tswI rfl (by decide +kernel) (by decide +kernel) e⟩
set_option maxRecDepth 20000 in
set_option maxHeartbeats 4000000 in
theorem sw_4 (xs : Nat → Int32) : ∃ h2, pm_Go (pm_tr (lb_all 6 xs)) (pm_Rt pm_P 8) (33, [(3, .int 0), (2, .ref 77), (1, .ref 0), (0, .retAddr 0)], [.int (nI 4)], hp0, 599897, 7298671) (h2, some (.int 1)) := by
  obtain ⟨h2, e⟩ := law_4 xs
  exact ⟨h2, Go_tswI rfl (by decide +kernel) (by decide +kernel) e⟩
set_option maxRecDepth 20000 in
set_option maxHeartbeats 4000000 in
theorem sw_5 (xs : Nat → Int32) : ∃ h2, pm_Go (pm_tr (lb_all 6 xs)) (pm_Rt pm_P 8) (33, [(3, .int 0), (2, .ref 77), (1, .ref 0), (0, .retAddr 0)], [.int (nI 5)], hp0, 599897, 7298671) (h2, some (.int 1)) := by
  obtain ⟨h2, e⟩ := law_5 xs
  exact ⟨h2, Go_tswI rfl (by decide +kernel) (by decide +kernel) e⟩
set_option maxRecDepth 20000 in
set_option maxHeartbeats 4000000 in
theorem sw_6 (xs : Nat → Int32) : ∃ h2, pm_Go (pm_tr (lb_all 6 xs)) (pm_Rt pm_P 8) (33, [(3, .int 0), (2, .ref 77), (1, .ref 0), (0, .retAddr 0)], [.int (nI 6)], hp0, 599897, 7298671) (h2, some (.int 1)) := by
  obtain ⟨h2, e⟩ := law_6 xs
  exact ⟨h2, Go_tswI rfl (by decide +kernel) (by decide +kernel) e⟩
set_option maxRecDepth 20000 in
set_option maxHeartbeats 4000000 in
theorem sw_7 (xs : Nat → Int32) : ∃ h2, pm_Go (pm_tr (lb_all 6 xs)) (pm_Rt pm_P 8) (33, [(3, .int 0), (2, .ref 77), (1, .ref 0), (0, .retAddr 0)], [.int (nI 7)], hp0, 599897, 7298671) (h2, some (.int 1)) := by
  obtain ⟨h2, e⟩ := law_7 xs
  exact ⟨h2, Go_tswI rfl (by decide +kernel) (by decide +kernel) e⟩
set_option maxRecDepth 20000 in
set_option maxHeartbeats 4000000 in
theorem sw_8 (xs : Nat → Int32) : ∃ h2, pm_Go (pm_tr (lb_all 6 xs)) (pm_Rt pm_P 8) (33, [(3, .int 0), (2, .ref 77), (1, .ref 0), (0, .retAddr 0)], [.int (nI 8)], hp0, 599897, 7298671) (h2, some (.int 1)) := by
  obtain ⟨h2, e⟩ := law_8 xs
  exact ⟨h2, Go_tswI rfl (by decide +kernel) (by decide +kernel) e⟩
set_option maxRecDepth 20000 in
set_option maxHeartbeats 4000000 in
theorem sw_9 (xs : Nat → Int32) : ∃ h2, pm_Go (pm_tr (lb_all 6 xs)) (pm_Rt pm_P 8) (33, [(3, .int 0), (2, .ref 77), (1, .ref 0), (0, .retAddr 0)], [.int (nI 9)], hp0, 599897, 7298671) (h2, some (.int 1)) := by
  obtain ⟨h2, e⟩ := law_9 xs
  exact ⟨h2, Go_tswI rfl (by decide +kernel) (by decide +kernel) e⟩
set_option maxRecDepth 20000 in
set_option maxHeartbeats 4000000 in
theorem sw_10 (xs : Nat → Int32) : ∃ h2, pm_Go (pm_tr (lb_all 6 xs)) (pm_Rt pm_P 8) (33, [(3, .int 0), (2, .ref 77), (1, .ref 0), (0, .retAddr 0)], [.int (nI 10)], hp0, 599897, 7298671) (h2, some (.int 1)) := by
  obtain ⟨h2, e⟩ := law_10 xs
  exact ⟨h2, Go_tswI rfl (by decide +kernel) (by decide +kernel) e⟩
set_option maxRecDepth 20000 in
set_option maxHeartbeats 4000000 in
theorem sw_11 (xs : Nat → Int32) : ∃ h2, pm_Go (pm_tr (lb_all 6 xs)) (pm_Rt pm_P 8) (33, [(3, .int 0), (2, .ref 77), (1, .ref 0), (0, .retAddr 0)], [.int (nI 11)], hp0, 599897, 7298671) (h2, some (.int 1)) := by
  obtain ⟨h2, e⟩ := law_11 xs
  exact ⟨h2, Go_tswI rfl (by decide +kernel) (by decide +kernel) e⟩
set_option maxRecDepth 20000 in
set_option maxHeartbeats 4000000 in
theorem sw_12 (xs : Nat → Int32) : ∃ h2, pm_Go (pm_tr (lb_all 6 xs)) (pm_Rt pm_P 8) (33, [(3, .int 0), (2, .ref 77), (1, .ref 0), (0, .retAddr 0)], [.int (nI 12)], hp0, 599897, 7298671) (h2, some (.int 1)) := by
  obtain ⟨h2, e⟩ := law_12 xs
  exact ⟨h2, Go_tswI rfl (by decide +kernel) (by decide +kernel) e⟩
set_option maxRecDepth 20000 in
set_option maxHeartbeats 4000000 in
theorem sw_13 (xs : Nat → Int32) : ∃ h2, pm_Go (pm_tr (lb_all 6 xs)) (pm_Rt pm_P 8) (33, [(3, .int 0), (2, .ref 77), (1, .ref 0), (0, .retAddr 0)], [.int (nI 13)], hp0, 599897, 7298671) (h2, some (.int 1)) := by
  obtain ⟨h2, e⟩ := law_13 xs
  exact ⟨h2, Go_tswI rfl (by decide +kernel) (by decide +kernel) e⟩
set_option maxRecDepth 20000 in
set_option maxHeartbeats 4000000 in
theorem sw_14 (xs : Nat → Int32) : ∃ h2, pm_Go (pm_tr (lb_all 6 xs)) (pm_Rt pm_P 8) (33, [(3, .int 0), (2, .ref 77), (1, .ref 0), (0, .retAddr 0)], [.int (nI 14)], hp0, 599897, 7298671) (h2, some (.int 1)) := by
  obtain ⟨h2, e⟩ := law_14 xs
  exact ⟨h2, Go_tswI rfl (by decide +kernel) (by decide +kernel) e⟩
set_option maxRecDepth 20000 in
set_option maxHeartbeats 4000000 in
theorem sw_15 (xs : Nat → Int32) : ∃ h2, pm_Go (pm_tr (lb_all 6 xs)) (pm_Rt pm_P 8) (33, [(3, .int 0), (2, .ref 77), (1, .ref 0), (0, .retAddr 0)], [.int (nI 15)], hp0, 599897, 7298671) (h2, some (.int 1)) := by
  obtain ⟨h2, e⟩ := law_15 xs
  exact ⟨h2, Go_tswI rfl (by decide +kernel) (by decide +kernel) e⟩
set_option maxRecDepth 20000 in
set_option maxHeartbeats 4000000 in
theorem sw_16 (xs : Nat → Int32) : ∃ h2, pm_Go (pm_tr (lb_all 6 xs)) (pm_Rt pm_P 8) (33, [(3, .int 0), (2, .ref 77), (1, .ref 0), (0, .retAddr 0)], [.int (nI 16)], hp0, 599897, 7298671) (h2, some (.int 1)) := by
  obtain ⟨h2, e⟩ := law_16 xs
  exact ⟨h2, Go_tswI rfl (by decide +kernel) (by decide +kernel) e⟩
set_option maxRecDepth 20000 in
set_option maxHeartbeats 4000000 in
theorem sw_17 (xs : Nat → Int32) : ∃ h2, pm_Go (pm_tr (lb_all 6 xs)) (pm_Rt pm_P 8) (33, [(3, .int 0), (2, .ref 77), (1, .ref 0), (0, .retAddr 0)], [.int (nI 17)], hp0, 599897, 7298671) (h2, some (.int 1)) := by
  obtain ⟨h2, e⟩ := law_17 xs
  exact ⟨h2, Go_tswI rfl (by decide +kernel) (by decide +kernel) e⟩
set_option maxRecDepth 20000 in
set_option maxHeartbeats 4000000 in
theorem sw_18 (xs : Nat → Int32) : ∃ h2, pm_Go (pm_tr (lb_all 6 xs)) (pm_Rt pm_P 8) (33, [(3, .int 0), (2, .ref 77), (1, .ref 0), (0, .retAddr 0)], [.int (nI 18)], hp0, 599897, 7298671) (h2, some (.int 1)) := by
  obtain ⟨h2, e⟩ := law_18 xs
  exact ⟨h2, Go_tswI rfl (by decide +kernel) (by decide +kernel) e⟩
set_option maxRecDepth 20000 in
set_option maxHeartbeats 4000000 in
theorem sw_19 (xs : Nat → Int32) : ∃ h2, pm_Go (pm_tr (lb_all 6 xs)) (pm_Rt pm_P 8) (33, [(3, .int 0), (2, .ref 77), (1, .ref 0), (0, .retAddr 0)], [.int (nI 19)], hp0, 599897, 7298671) (h2, some (.int 1)) := by
  obtain ⟨h2, e⟩ := law_19 xs
  exact ⟨h2, Go_tswI rfl (by decide +kernel) (by decide +kernel) e⟩
set_option maxRecDepth 20000 in
set_option maxHeartbeats 4000000 in
theorem sw_20 (xs : Nat → Int32) : ∃ h2, pm_Go (pm_tr (lb_all 6 xs)) (pm_Rt pm_P 8) (33, [(3, .int 0), (2, .ref 77), (1, .ref 0), (0, .retAddr 0)], [.int (nI 20)], hp0, 599897, 7298671) (h2, some (.int 1)) := by
  obtain ⟨h2, e⟩ := law_20 xs
  exact ⟨h2, Go_tswI rfl (by decide +kernel) (by decide +kernel) e⟩
set_option maxRecDepth 20000 in
set_option maxHeartbeats 4000000 in
theorem sw_21 (xs : Nat → Int32) : ∃ h2, pm_Go (pm_tr (lb_all 6 xs)) (pm_Rt pm_P 8) (33, [(3, .int 0), (2, .ref 77), (1, .ref 0), (0, .retAddr 0)], [.int (nI 21)], hp0, 599897, 7298671) (h2, some (.int 1)) := by
  obtain ⟨h2, e⟩ := law_21 xs
  exact ⟨h2, Go_tswI rfl (by decide +kernel) (by decide +kernel) e⟩
set_option maxRecDepth 20000 in
set_option maxHeartbeats 4000000 in
theorem sw_22 (xs : Nat → Int32) : ∃ h2, pm_Go (pm_tr (lb_all 6 xs)) (pm_Rt pm_P 8) (33, [(3, .int 0), (2, .ref 77), (1, .ref 0), (0, .retAddr 0)], [.int (nI 22)], hp0, 599897, 7298671) (h2, some (.int 1)) := by
  obtain ⟨h2, e⟩ := law_22 xs
  exact ⟨h2, Go_tswI rfl (by decide +kernel) (by decide +kernel) e⟩
set_option maxRecDepth 20000 in
set_option maxHeartbeats 4000000 in
theorem sw_23 (xs : Nat → Int32) : ∃ h2, pm_Go (pm_tr (lb_all 6 xs)) (pm_Rt pm_P 8) (33, [(3, .int 0), (2, .ref 77), (1, .ref 0), (0, .retAddr 0)], [.int (nI 23)], hp0, 599897, 7298671) (h2, some (.int 1)) := by
  obtain ⟨h2, e⟩ := law_23 xs
  exact ⟨h2, Go_tswI rfl (by decide +kernel) (by decide +kernel) e⟩
set_option maxRecDepth 20000 in
set_option maxHeartbeats 4000000 in
theorem sw_24 (xs : Nat → Int32) : ∃ h2, pm_Go (pm_tr (lb_all 6 xs)) (pm_Rt pm_P 8) (33, [(3, .int 0), (2, .ref 77), (1, .ref 0), (0, .retAddr 0)], [.int (nI 24)], hp0, 599897, 7298671) (h2, some (.int 1)) := by
  obtain ⟨h2, e⟩ := law_24 xs
  exact ⟨h2, Go_tswI rfl (by decide +kernel) (by decide +kernel) e⟩
set_option maxRecDepth 20000 in
set_option maxHeartbeats 4000000 in
theorem sw_25 (xs : Nat → Int32) : ∃ h2, pm_Go (pm_tr (lb_all 6 xs)) (pm_Rt pm_P 8) (33, [(3, .int 0), (2, .ref 77), (1, .ref 0), (0, .retAddr 0)], [.int (nI 25)], hp0, 599897, 7298671) (h2, some (.int 1)) := by
  obtain ⟨h2, e⟩ := law_25 xs
  exact ⟨h2, Go_tswI rfl (by decide +kernel) (by decide +kernel) e⟩
set_option maxRecDepth 20000 in
set_option maxHeartbeats 4000000 in
theorem sw_26 (xs : Nat → Int32) : ∃ h2, pm_Go (pm_tr (lb_all 6 xs)) (pm_Rt pm_P 8) (33, [(3, .int 0), (2, .ref 77), (1, .ref 0), (0, .retAddr 0)], [.int (nI 26)], hp0, 599897, 7298671) (h2, some (.int 1)) := by
  obtain ⟨h2, e⟩ := law_26 xs
  exact ⟨h2, Go_tswI rfl (by decide +kernel) (by decide +kernel) e⟩
set_option maxRecDepth 20000 in
set_option maxHeartbeats 4000000 in
theorem sw_27 (xs : Nat → Int32) : ∃ h2, pm_Go (pm_tr (lb_all 6 xs)) (pm_Rt pm_P 8) (33, [(3, .int 0), (2, .ref 77), (1, .ref 0), (0, .retAddr 0)], [.int (nI 27)], hp0, 599897, 7298671) (h2, some (.int 1)) := by
  obtain ⟨h2, e⟩ := law_27 xs
  exact ⟨h2, Go_tswI rfl (by decide +kernel) (by decide +kernel) e⟩
set_option maxRecDepth 20000 in
set_option maxHeartbeats 4000000 in
theorem sw_28 (xs : Nat → Int32) : ∃ h2, pm_Go (pm_tr (lb_all 6 xs)) (pm_Rt pm_P 8) (33, [(3, .int 0), (2, .ref 77), (1, .ref 0), (0, .retAddr 0)], [.int (nI 28)], hp0, 599897, 7298671) (h2, some (.int 1)) := by
  obtain ⟨h2, e⟩ := law_28 xs
  exact ⟨h2, Go_tswI rfl (by decide +kernel) (by decide +kernel) e⟩
set_option maxRecDepth 20000 in
set_option maxHeartbeats 4000000 in
theorem sw_29 (xs : Nat → Int32) : ∃ h2, pm_Go (pm_tr (lb_all 6 xs)) (pm_Rt pm_P 8) (33, [(3, .int 0), (2, .ref 77), (1, .ref 0), (0, .retAddr 0)], [.int (nI 29)], hp0, 599897, 7298671) (h2, some (.int 1)) := by
  obtain ⟨h2, e⟩ := law_29 xs
  exact ⟨h2, Go_tswI rfl (by decide +kernel) (by decide +kernel) e⟩
set_option maxRecDepth 20000 in
set_option maxHeartbeats 4000000 in
theorem sw_30 (xs : Nat → Int32) : ∃ h2, pm_Go (pm_tr (lb_all 6 xs)) (pm_Rt pm_P 8) (33, [(3, .int 0), (2, .ref 77), (1, .ref 0), (0, .retAddr 0)], [.int (nI 30)], hp0, 599897, 7298671) (h2, some (.int 1)) := by
  obtain ⟨h2, e⟩ := law_30 xs
  exact ⟨h2, Go_tswI rfl (by decide +kernel) (by decide +kernel) e⟩
set_option maxRecDepth 20000 in
set_option maxHeartbeats 4000000 in
theorem sw_31 (xs : Nat → Int32) : ∃ h2, pm_Go (pm_tr (lb_all 6 xs)) (pm_Rt pm_P 8) (33, [(3, .int 0), (2, .ref 77), (1, .ref 0), (0, .retAddr 0)], [.int (nI 31)], hp0, 599897, 7298671) (h2, some (.int 1)) := by
  obtain ⟨h2, e⟩ := law_31 xs
  exact ⟨h2, Go_tswI rfl (by decide +kernel) (by decide +kernel) e⟩
set_option maxRecDepth 20000 in
set_option maxHeartbeats 4000000 in
theorem sw_32 (xs : Nat → Int32) : ∃ h2, pm_Go (pm_tr (lb_all 6 xs)) (pm_Rt pm_P 8) (33, [(3, .int 0), (2, .ref 77), (1, .ref 0), (0, .retAddr 0)], [.int (nI 32)], hp0, 599897, 7298671) (h2, some (.int 1)) := by
  obtain ⟨h2, e⟩ := law_32 xs
  exact ⟨h2, Go_tswI rfl (by decide +kernel) (by decide +kernel) e⟩
set_option maxRecDepth 20000 in
set_option maxHeartbeats 4000000 in
theorem sw_33 (xs : Nat → Int32) : ∃ h2, pm_Go (pm_tr (lb_all 6 xs)) (pm_Rt pm_P 8) (33, [(3, .int 0), (2, .ref 77), (1, .ref 0), (0, .retAddr 0)], [.int (nI 33)], hp0, 599897, 7298671) (h2, some (.int 1)) := by
  obtain ⟨h2, e⟩ := law_33 xs
  exact ⟨h2, Go_tswI rfl (by decide +kernel) (by decide +kernel) e⟩
set_option maxRecDepth 20000 in
set_option maxHeartbeats 4000000 in
theorem sw_34 (xs : Nat → Int32) : ∃ h2, pm_Go (pm_tr (lb_all 6 xs)) (pm_Rt pm_P 8) (33, [(3, .int 0), (2, .ref 77), (1, .ref 0), (0, .retAddr 0)], [.int (nI 34)], hp0, 599897, 7298671) (h2, some (.int 1)) := by
  obtain ⟨h2, e⟩ := law_34 xs
  exact ⟨h2, Go_tswI rfl (by decide +kernel) (by decide +kernel) e⟩
set_option maxRecDepth 20000 in
set_option maxHeartbeats 4000000 in
theorem sw_35 (xs : Nat → Int32) : ∃ h2, pm_Go (pm_tr (lb_all 6 xs)) (pm_Rt pm_P 8) (33, [(3, .int 0), (2, .ref 77), (1, .ref 0), (0, .retAddr 0)], [.int (nI 35)], hp0, 599897, 7298671) (h2, some (.int 1)) := by
  obtain ⟨h2, e⟩ := law_35 xs
  exact ⟨h2, Go_tswI rfl (by decide +kernel) (by decide +kernel) e⟩
set_option maxRecDepth 20000 in
set_option maxHeartbeats 4000000 in
theorem sw_36 (xs : Nat → Int32) : ∃ h2, pm_Go (pm_tr (lb_all 6 xs)) (pm_Rt pm_P 8) (33, [(3, .int 0), (2, .ref 77), (1, .ref 0), (0, .retAddr 0)], [.int (nI 36)], hp0, 599897, 7298671) (h2, some (.int 1)) := by
  obtain ⟨h2, e⟩ := law_36 xs
  exact ⟨h2, Go_tswI rfl (by decide +kernel) (by decide +kernel) e⟩
set_option maxRecDepth 20000 in
set_option maxHeartbeats 4000000 in
theorem sw_37 (xs : Nat → Int32) : ∃ h2, pm_Go (pm_tr (lb_all 6 xs)) (pm_Rt pm_P 8) (33, [(3, .int 0), (2, .ref 77), (1, .ref 0), (0, .retAddr 0)], [.int (nI 37)], hp0, 599897, 7298671) (h2, some (.int 1)) := by
  obtain ⟨h2, e⟩ := law_37 xs
  exact ⟨h2, Go_tswI rfl (by decide +kernel) (by decide +kernel) e⟩
set_option maxRecDepth 20000 in
set_option maxHeartbeats 4000000 in
theorem sw_38 (xs : Nat → Int32) : ∃ h2, pm_Go (pm_tr (lb_all 6 xs)) (pm_Rt pm_P 8) (33, [(3, .int 0), (2, .ref 77), (1, .ref 0), (0, .retAddr 0)], [.int (nI 38)], hp0, 599897, 7298671) (h2, some (.int 1)) := by
  obtain ⟨h2, e⟩ := law_38 xs
  exact ⟨h2, Go_tswI rfl (by decide +kernel) (by decide +kernel) e⟩
set_option maxRecDepth 20000 in
set_option maxHeartbeats 4000000 in
theorem sw_39 (xs : Nat → Int32) : ∃ h2, pm_Go (pm_tr (lb_all 6 xs)) (pm_Rt pm_P 8) (33, [(3, .int 0), (2, .ref 77), (1, .ref 0), (0, .retAddr 0)], [.int (nI 39)], hp0, 599897, 7298671) (h2, some (.int 1)) := by
  obtain ⟨h2, e⟩ := law_39 xs
  exact ⟨h2, Go_tswI rfl (by decide +kernel) (by decide +kernel) e⟩
set_option maxRecDepth 20000 in
set_option maxHeartbeats 4000000 in
theorem sw_40 (xs : Nat → Int32) : ∃ h2, pm_Go (pm_tr (lb_all 6 xs)) (pm_Rt pm_P 8) (33, [(3, .int 0), (2, .ref 77), (1, .ref 0), (0, .retAddr 0)], [.int (nI 40)], hp0, 599897, 7298671) (h2, some (.int 1)) := by
  obtain ⟨h2, e⟩ := law_40 xs
  exact ⟨h2, Go_tswI rfl (by decide +kernel) (by decide +kernel) e⟩
set_option maxRecDepth 20000 in
set_option maxHeartbeats 4000000 in
theorem sw_41 (xs : Nat → Int32) : ∃ h2, pm_Go (pm_tr (lb_all 6 xs)) (pm_Rt pm_P 8) (33, [(3, .int 0), (2, .ref 77), (1, .ref 0), (0, .retAddr 0)], [.int (nI 41)], hp0, 599897, 7298671) (h2, some (.int 1)) := by
  obtain ⟨h2, e⟩ := law_41 xs
  exact ⟨h2, Go_tswI rfl (by decide +kernel) (by decide +kernel) e⟩
set_option maxRecDepth 20000 in
set_option maxHeartbeats 4000000 in
theorem sw_42 (xs : Nat → Int32) : ∃ h2, pm_Go (pm_tr (lb_all 6 xs)) (pm_Rt pm_P 8) (33, [(3, .int 0), (2, .ref 77), (1, .ref 0), (0, .retAddr 0)], [.int (nI 42)], hp0, 599897, 7298671) (h2, some (.int 1)) := by
  obtain ⟨h2, e⟩ := law_42 xs
  exact ⟨h2, Go_tswI rfl (by decide +kernel) (by decide +kernel) e⟩
set_option maxRecDepth 20000 in
set_option maxHeartbeats 4000000 in
theorem sw_43 (xs : Nat → Int32) : ∃ h2, pm_Go (pm_tr (lb_all 6 xs)) (pm_Rt pm_P 8) (33, [(3, .int 0), (2, .ref 77), (1, .ref 0), (0, .retAddr 0)], [.int (nI 43)], hp0, 599897, 7298671) (h2, some (.int 1)) := by
  obtain ⟨h2, e⟩ := law_43 xs
  exact ⟨h2, Go_tswI rfl (by decide +kernel) (by decide +kernel) e⟩
set_option maxRecDepth 20000 in
set_option maxHeartbeats 4000000 in
theorem sw_44 (xs : Nat → Int32) : ∃ h2, pm_Go (pm_tr (lb_all 6 xs)) (pm_Rt pm_P 8) (33, [(3, .int 0), (2, .ref 77), (1, .ref 0), (0, .retAddr 0)], [.int (nI 44)], hp0, 599897, 7298671) (h2, some (.int 1)) := by
  obtain ⟨h2, e⟩ := law_44 xs
  exact ⟨h2, Go_tswI rfl (by decide +kernel) (by decide +kernel) e⟩
set_option maxRecDepth 20000 in
set_option maxHeartbeats 4000000 in
theorem sw_45 (xs : Nat → Int32) : ∃ h2, pm_Go (pm_tr (lb_all 6 xs)) (pm_Rt pm_P 8) (33, [(3, .int 0), (2, .ref 77), (1, .ref 0), (0, .retAddr 0)], [.int (nI 45)], hp0, 599897, 7298671) (h2, some (.int 1)) := by
  obtain ⟨h2, e⟩ := law_45 xs
  exact ⟨h2, Go_tswI rfl (by decide +kernel) (by decide +kernel) e⟩
set_option maxRecDepth 20000 in
set_option maxHeartbeats 4000000 in
theorem sw_46 (xs : Nat → Int32) : ∃ h2, pm_Go (pm_tr (lb_all 6 xs)) (pm_Rt pm_P 8) (33, [(3, .int 0), (2, .ref 77), (1, .ref 0), (0, .retAddr 0)], [.int (nI 46)], hp0, 599897, 7298671) (h2, some (.int 1)) := by
  obtain ⟨h2, e⟩ := law_46 xs
  exact ⟨h2, Go_tswI rfl (by decide +kernel) (by decide +kernel) e⟩
set_option maxRecDepth 20000 in
set_option maxHeartbeats 4000000 in
theorem sw_47 (xs : Nat → Int32) : ∃ h2, pm_Go (pm_tr (lb_all 6 xs)) (pm_Rt pm_P 8) (33, [(3, .int 0), (2, .ref 77), (1, .ref 0), (0, .retAddr 0)], [.int (nI 47)], hp0, 599897, 7298671) (h2, some (.int 1)) := by
  obtain ⟨h2, e⟩ := law_47 xs
  exact ⟨h2, Go_tswI rfl (by decide +kernel) (by decide +kernel) e⟩
set_option maxRecDepth 20000 in
set_option maxHeartbeats 4000000 in
theorem sw_48 (xs : Nat → Int32) : ∃ h2, pm_Go (pm_tr (lb_all 6 xs)) (pm_Rt pm_P 8) (33, [(3, .int 0), (2, .ref 77), (1, .ref 0), (0, .retAddr 0)], [.int (nI 48)], hp0, 599897, 7298671) (h2, some (.int 1)) := by
  obtain ⟨h2, e⟩ := law_48 xs
  exact ⟨h2, Go_tswI rfl (by decide +kernel) (by decide +kernel) e⟩
set_option maxRecDepth 20000 in
set_option maxHeartbeats 4000000 in
theorem sw_49 (xs : Nat → Int32) : ∃ h2, pm_Go (pm_tr (lb_all 6 xs)) (pm_Rt pm_P 8) (33, [(3, .int 0), (2, .ref 77), (1, .ref 0), (0, .retAddr 0)], [.int (nI 49)], hp0, 599897, 7298671) (h2, some (.int 1)) := by
  obtain ⟨h2, e⟩ := law_49 xs
  exact ⟨h2, Go_tswI rfl (by decide +kernel) (by decide +kernel) e⟩
set_option maxRecDepth 20000 in
set_option maxHeartbeats 4000000 in
theorem sw_50 (xs : Nat → Int32) : ∃ h2, pm_Go (pm_tr (lb_all 6 xs)) (pm_Rt pm_P 8) (33, [(3, .int 0), (2, .ref 77), (1, .ref 0), (0, .retAddr 0)], [.int (nI 50)], hp0, 599897, 7298671) (h2, some (.int 1)) := by
  obtain ⟨h2, e⟩ := law_50 xs
  exact ⟨h2, Go_tswI rfl (by decide +kernel) (by decide +kernel) e⟩
set_option maxRecDepth 20000 in
set_option maxHeartbeats 4000000 in
theorem sw_51 (xs : Nat → Int32) : ∃ h2, pm_Go (pm_tr (lb_all 6 xs)) (pm_Rt pm_P 8) (33, [(3, .int 0), (2, .ref 77), (1, .ref 0), (0, .retAddr 0)], [.int (nI 51)], hp0, 599897, 7298671) (h2, some (.int 1)) := by
  obtain ⟨h2, e⟩ := law_51 xs
  exact ⟨h2, Go_tswI rfl (by decide +kernel) (by decide +kernel) e⟩
set_option maxRecDepth 20000 in
set_option maxHeartbeats 4000000 in
theorem sw_52 (xs : Nat → Int32) : ∃ h2, pm_Go (pm_tr (lb_all 6 xs)) (pm_Rt pm_P 8) (33, [(3, .int 0), (2, .ref 77), (1, .ref 0), (0, .retAddr 0)], [.int (nI 52)], hp0, 599897, 7298671) (h2, some (.int 1)) := by
  obtain ⟨h2, e⟩ := law_52 xs
  exact ⟨h2, Go_tswI rfl (by decide +kernel) (by decide +kernel) e⟩
set_option maxRecDepth 20000 in
set_option maxHeartbeats 4000000 in
theorem sw_53 (xs : Nat → Int32) : ∃ h2, pm_Go (pm_tr (lb_all 6 xs)) (pm_Rt pm_P 8) (33, [(3, .int 0), (2, .ref 77), (1, .ref 0), (0, .retAddr 0)], [.int (nI 53)], hp0, 599897, 7298671) (h2, some (.int 1)) := by
  obtain ⟨h2, e⟩ := law_53 xs
  exact ⟨h2, Go_tswI rfl (by decide +kernel) (by decide +kernel) e⟩
set_option maxRecDepth 20000 in
set_option maxHeartbeats 4000000 in
theorem sw_54 (xs : Nat → Int32) : ∃ h2, pm_Go (pm_tr (lb_all 6 xs)) (pm_Rt pm_P 8) (33, [(3, .int 0), (2, .ref 77), (1, .ref 0), (0, .retAddr 0)], [.int (nI 54)], hp0, 599897, 7298671) (h2, some (.int 1)) := by
  obtain ⟨h2, e⟩ := law_54 xs
  exact ⟨h2, Go_tswI rfl (by decide +kernel) (by decide +kernel) e⟩
set_option maxRecDepth 20000 in
set_option maxHeartbeats 4000000 in
theorem sw_55 (xs : Nat → Int32) : ∃ h2, pm_Go (pm_tr (lb_all 6 xs)) (pm_Rt pm_P 8) (33, [(3, .int 0), (2, .ref 77), (1, .ref 0), (0, .retAddr 0)], [.int (nI 55)], hp0, 599897, 7298671) (h2, some (.int 1)) := by
  obtain ⟨h2, e⟩ := law_55 xs
  exact ⟨h2, Go_tswI rfl (by decide +kernel) (by decide +kernel) e⟩
set_option maxRecDepth 20000 in
set_option maxHeartbeats 4000000 in
theorem sw_56 (xs : Nat → Int32) : ∃ h2, pm_Go (pm_tr (lb_all 6 xs)) (pm_Rt pm_P 8) (33, [(3, .int 0), (2, .ref 77), (1, .ref 0), (0, .retAddr 0)], [.int (nI 56)], hp0, 599897, 7298671) (h2, some (.int 1)) := by
  obtain ⟨h2, e⟩ := law_56 xs
  exact ⟨h2, Go_tswI rfl (by decide +kernel) (by decide +kernel) e⟩
set_option maxRecDepth 20000 in
set_option maxHeartbeats 4000000 in
theorem sw_57 (xs : Nat → Int32) : ∃ h2, pm_Go (pm_tr (lb_all 6 xs)) (pm_Rt pm_P 8) (33, [(3, .int 0), (2, .ref 77), (1, .ref 0), (0, .retAddr 0)], [.int (nI 57)], hp0, 599897, 7298671) (h2, some (.int 1)) := by
  obtain ⟨h2, e⟩ := law_57 xs
  exact ⟨h2, Go_tswI rfl (by decide +kernel) (by decide +kernel) e⟩
set_option maxRecDepth 20000 in
set_option maxHeartbeats 4000000 in
theorem sw_58 (xs : Nat → Int32) : ∃ h2, pm_Go (pm_tr (lb_all 6 xs)) (pm_Rt pm_P 8) (33, [(3, .int 0), (2, .ref 77), (1, .ref 0), (0, .retAddr 0)], [.int (nI 58)], hp0, 599897, 7298671) (h2, some (.int 1)) := by
  obtain ⟨h2, e⟩ := law_58 xs
  exact ⟨h2, Go_tswI rfl (by decide +kernel) (by decide +kernel) e⟩
set_option maxRecDepth 20000 in
set_option maxHeartbeats 4000000 in
theorem sw_59 (xs : Nat → Int32) : ∃ h2, pm_Go (pm_tr (lb_all 6 xs)) (pm_Rt pm_P 8) (33, [(3, .int 0), (2, .ref 77), (1, .ref 0), (0, .retAddr 0)], [.int (nI 59)], hp0, 599897, 7298671) (h2, some (.int 1)) := by
  obtain ⟨h2, e⟩ := law_59 xs
  exact ⟨h2, Go_tswI rfl (by decide +kernel) (by decide +kernel) e⟩
set_option maxRecDepth 20000 in
set_option maxHeartbeats 4000000 in
theorem sw_60 (xs : Nat → Int32) : ∃ h2, pm_Go (pm_tr (lb_all 6 xs)) (pm_Rt pm_P 8) (33, [(3, .int 0), (2, .ref 77), (1, .ref 0), (0, .retAddr 0)], [.int (nI 60)], hp0, 599897, 7298671) (h2, some (.int 1)) := by
  obtain ⟨h2, e⟩ := law_60 xs
  exact ⟨h2, Go_tswI rfl (by decide +kernel) (by decide +kernel) e⟩
set_option maxRecDepth 20000 in
set_option maxHeartbeats 4000000 in
theorem sw_61 (xs : Nat → Int32) : ∃ h2, pm_Go (pm_tr (lb_all 6 xs)) (pm_Rt pm_P 8) (33, [(3, .int 0), (2, .ref 77), (1, .ref 0), (0, .retAddr 0)], [.int (nI 61)], hp0, 599897, 7298671) (h2, some (.int 1)) := by
  obtain ⟨h2, e⟩ := law_61 xs
  exact ⟨h2, Go_tswI rfl (by decide +kernel) (by decide +kernel) e⟩
set_option maxRecDepth 20000 in
set_option maxHeartbeats 4000000 in
theorem sw_62 (xs : Nat → Int32) : ∃ h2, pm_Go (pm_tr (lb_all 6 xs)) (pm_Rt pm_P 8) (33, [(3, .int 0), (2, .ref 77), (1, .ref 0), (0, .retAddr 0)], [.int (nI 62)], hp0, 599897, 7298671) (h2, some (.int 1)) := by
  obtain ⟨h2, e⟩ := law_62 xs
  exact ⟨h2, Go_tswI rfl (by decide +kernel) (by decide +kernel) e⟩
set_option maxRecDepth 20000 in
set_option maxHeartbeats 4000000 in
theorem sw_63 (xs : Nat → Int32) : ∃ h2, pm_Go (pm_tr (lb_all 6 xs)) (pm_Rt pm_P 8) (33, [(3, .int 0), (2, .ref 77), (1, .ref 0), (0, .retAddr 0)], [.int (nI 63)], hp0, 599897, 7298671) (h2, some (.int 1)) := by
  obtain ⟨h2, e⟩ := law_63 xs
  exact ⟨h2, Go_tswI rfl (by decide +kernel) (by decide +kernel) e⟩
set_option maxRecDepth 20000 in
set_option maxHeartbeats 4000000 in
theorem sw_64 (xs : Nat → Int32) : ∃ h2, pm_Go (pm_tr (lb_all 6 xs)) (pm_Rt pm_P 8) (33, [(3, .int 0), (2, .ref 77), (1, .ref 0), (0, .retAddr 0)], [.int (nI 64)], hp0, 599897, 7298671) (h2, some (.int 1)) := by
  obtain ⟨h2, e⟩ := law_64 xs
  exact ⟨h2, Go_tswI rfl (by decide +kernel) (by decide +kernel) e⟩
set_option maxRecDepth 20000 in
set_option maxHeartbeats 4000000 in
theorem sw_65 (xs : Nat → Int32) : ∃ h2, pm_Go (pm_tr (lb_all 6 xs)) (pm_Rt pm_P 8) (33, [(3, .int 0), (2, .ref 77), (1, .ref 0), (0, .retAddr 0)], [.int (nI 65)], hp0, 599897, 7298671) (h2, some (.int 1)) := by
  obtain ⟨h2, e⟩ := law_65 xs
  exact ⟨h2, Go_tswI rfl (by decide +kernel) (by decide +kernel) e⟩
set_option maxRecDepth 20000 in
set_option maxHeartbeats 4000000 in
theorem sw_66 (xs : Nat → Int32) : ∃ h2, pm_Go (pm_tr (lb_all 6 xs)) (pm_Rt pm_P 8) (33, [(3, .int 0), (2, .ref 77), (1, .ref 0), (0, .retAddr 0)], [.int (nI 66)], hp0, 599897, 7298671) (h2, some (.int 1)) := by
  obtain ⟨h2, e⟩ := law_66 xs
  exact ⟨h2, Go_tswI rfl (by decide +kernel) (by decide +kernel) e⟩
set_option maxRecDepth 20000 in
set_option maxHeartbeats 4000000 in
theorem sw_67 (xs : Nat → Int32) : ∃ h2, pm_Go (pm_tr (lb_all 6 xs)) (pm_Rt pm_P 8) (33, [(3, .int 0), (2, .ref 77), (1, .ref 0), (0, .retAddr 0)], [.int (nI 67)], hp0, 599897, 7298671) (h2, some (.int 1)) := by
  obtain ⟨h2, e⟩ := law_67 xs
  exact ⟨h2, Go_tswI rfl (by decide +kernel) (by decide +kernel) e⟩
set_option maxRecDepth 20000 in
set_option maxHeartbeats 4000000 in
theorem sw_68 (xs : Nat → Int32) : ∃ h2, pm_Go (pm_tr (lb_all 6 xs)) (pm_Rt pm_P 8) (33, [(3, .int 0), (2, .ref 77), (1, .ref 0), (0, .retAddr 0)], [.int (nI 68)], hp0, 599897, 7298671) (h2, some (.int 1)) := by
  obtain ⟨h2, e⟩ := law_68 xs
  exact ⟨h2, Go_tswI rfl (by decide +kernel) (by decide +kernel) e⟩
set_option maxRecDepth 20000 in
set_option maxHeartbeats 4000000 in
theorem sw_69 (xs : Nat → Int32) : ∃ h2, pm_Go (pm_tr (lb_all 6 xs)) (pm_Rt pm_P 8) (33, [(3, .int 0), (2, .ref 77), (1, .ref 0), (0, .retAddr 0)], [.int (nI 69)], hp0, 599897, 7298671) (h2, some (.int 1)) := by
  obtain ⟨h2, e⟩ := law_69 xs
  exact ⟨h2, Go_tswI rfl (by decide +kernel) (by decide +kernel) e⟩
set_option maxRecDepth 20000 in
set_option maxHeartbeats 4000000 in
theorem sw_70 (xs : Nat → Int32) : ∃ h2, pm_Go (pm_tr (lb_all 6 xs)) (pm_Rt pm_P 8) (33, [(3, .int 0), (2, .ref 77), (1, .ref 0), (0, .retAddr 0)], [.int (nI 70)], hp0, 599897, 7298671) (h2, some (.int 1)) := by
  obtain ⟨h2, e⟩ := law_70 xs
  exact ⟨h2, Go_tswI rfl (by decide +kernel) (by decide +kernel) e⟩
set_option maxRecDepth 20000 in
set_option maxHeartbeats 4000000 in
theorem sw_71 (xs : Nat → Int32) : ∃ h2, pm_Go (pm_tr (lb_all 6 xs)) (pm_Rt pm_P 8) (33, [(3, .int 0), (2, .ref 77), (1, .ref 0), (0, .retAddr 0)], [.int (nI 71)], hp0, 599897, 7298671) (h2, some (.int 1)) := by
  obtain ⟨h2, e⟩ := law_71 xs
  exact ⟨h2, Go_tswI rfl (by decide +kernel) (by decide +kernel) e⟩
set_option maxRecDepth 20000 in
set_option maxHeartbeats 4000000 in
theorem sw_72 (xs : Nat → Int32) : ∃ h2, pm_Go (pm_tr (lb_all 6 xs)) (pm_Rt pm_P 8) (33, [(3, .int 0), (2, .ref 77), (1, .ref 0), (0, .retAddr 0)], [.int (nI 72)], hp0, 599897, 7298671) (h2, some (.int 1)) := by
  obtain ⟨h2, e⟩ := law_72 xs
  exact ⟨h2, Go_tswI rfl (by decide +kernel) (by decide +kernel) e⟩
set_option maxRecDepth 20000 in
set_option maxHeartbeats 4000000 in
theorem sw_73 (xs : Nat → Int32) : ∃ h2, pm_Go (pm_tr (lb_all 6 xs)) (pm_Rt pm_P 8) (33, [(3, .int 0), (2, .ref 77), (1, .ref 0), (0, .retAddr 0)], [.int (nI 73)], hp0, 599897, 7298671) (h2, some (.int 1)) := by
  obtain ⟨h2, e⟩ := law_73 xs
  exact ⟨h2, Go_tswI rfl (by decide +kernel) (by decide +kernel) e⟩
set_option maxRecDepth 20000 in
set_option maxHeartbeats 4000000 in
theorem sw_74 (xs : Nat → Int32) : ∃ h2, pm_Go (pm_tr (lb_all 6 xs)) (pm_Rt pm_P 8) (33, [(3, .int 0), (2, .ref 77), (1, .ref 0), (0, .retAddr 0)], [.int (nI 74)], hp0, 599897, 7298671) (h2, some (.int 1)) := by
  obtain ⟨h2, e⟩ := law_74 xs
  exact ⟨h2, Go_tswI rfl (by decide +kernel) (by decide +kernel) e⟩
set_option maxRecDepth 20000 in
set_option maxHeartbeats 4000000 in
theorem sw_75 (xs : Nat → Int32) : ∃ h2, pm_Go (pm_tr (lb_all 6 xs)) (pm_Rt pm_P 8) (33, [(3, .int 0), (2, .ref 77), (1, .ref 0), (0, .retAddr 0)], [.int (nI 75)], hp0, 599897, 7298671) (h2, some (.int 1)) := by
  obtain ⟨h2, e⟩ := law_75 xs
  exact ⟨h2, Go_tswI rfl (by decide +kernel) (by decide +kernel) e⟩
set_option maxRecDepth 20000 in
set_option maxHeartbeats 4000000 in
theorem sw_76 (xs : Nat → Int32) : ∃ h2, pm_Go (pm_tr (lb_all 6 xs)) (pm_Rt pm_P 8) (33, [(3, .int 0), (2, .ref 77), (1, .ref 0), (0, .retAddr 0)], [.int (nI 76)], hp0, 599897, 7298671) (h2, some (.int 1)) := by
  obtain ⟨h2, e⟩ := law_76 xs
  exact ⟨h2, Go_tswI rfl (by decide +kernel) (by decide +kernel) e⟩
set_option maxRecDepth 20000 in
set_option maxHeartbeats 4000000 in
theorem sw_77 (xs : Nat → Int32) : ∃ h2, pm_Go (pm_tr (lb_all 6 xs)) (pm_Rt pm_P 8) (33, [(3, .int 0), (2, .ref 77), (1, .ref 0), (0, .retAddr 0)], [.int (nI 77)], hp0, 599897, 7298671) (h2, some (.int 1)) := by
  obtain ⟨h2, e⟩ := law_77 xs
  exact ⟨h2, Go_tswI rfl (by decide +kernel) (by decide +kernel) e⟩
set_option maxRecDepth 20000 in
set_option maxHeartbeats 4000000 in
theorem sw_78 (xs : Nat → Int32) : ∃ h2, pm_Go (pm_tr (lb_all 6 xs)) (pm_Rt pm_P 8) (33, [(3, .int 0), (2, .ref 77), (1, .ref 0), (0, .retAddr 0)], [.int (nI 78)], hp0, 599897, 7298671) (h2, some (.int 1)) := by
  obtain ⟨h2, e⟩ := law_78 xs
  exact ⟨h2, Go_tswI rfl (by decide +kernel) (by decide +kernel) e⟩
set_option maxRecDepth 20000 in
set_option maxHeartbeats 4000000 in
theorem sw_79 (xs : Nat → Int32) : ∃ h2, pm_Go (pm_tr (lb_all 6 xs)) (pm_Rt pm_P 8) (33, [(3, .int 0), (2, .ref 77), (1, .ref 0), (0, .retAddr 0)], [.int (nI 79)], hp0, 599897, 7298671) (h2, some (.int 1)) := by
  obtain ⟨h2, e⟩ := law_79 xs
  exact ⟨h2, Go_tswI rfl (by decide +kernel) (by decide +kernel) e⟩
set_option maxRecDepth 20000 in
set_option maxHeartbeats 4000000 in
theorem sw_80 (xs : Nat → Int32) : ∃ h2, pm_Go (pm_tr (lb_all 6 xs)) (pm_Rt pm_P 8) (33, [(3, .int 0), (2, .ref 77), (1, .ref 0), (0, .retAddr 0)], [.int (nI 80)], hp0, 599897, 7298671) (h2, some (.int 1)) := by
  obtain ⟨h2, e⟩ := law_80 xs
  exact ⟨h2, Go_tswI rfl (by decide +kernel) (by decide +kernel) e⟩
set_option maxRecDepth 20000 in
set_option maxHeartbeats 4000000 in
theorem sw_81 (xs : Nat → Int32) : ∃ h2, pm_Go (pm_tr (lb_all 6 xs)) (pm_Rt pm_P 8) (33, [(3, .int 0), (2, .ref 77), (1, .ref 0), (0, .retAddr 0)], [.int (nI 81)], hp0, 599897, 7298671) (h2, some (.int 1)) := by
  obtain ⟨h2, e⟩ := law_81 xs
  exact ⟨h2, Go_tswI rfl (by decide +kernel) (by decide +kernel) e⟩
set_option maxRecDepth 20000 in
set_option maxHeartbeats 4000000 in
theorem sw_all (xs : Nat → Int32) : ∀ j : Nat, ∃ h2, pm_Go (pm_tr (lb_all 6 xs)) (pm_Rt pm_P 8) (33, [(3, .int 0), (2, .ref 77), (1, .ref 0), (0, .retAddr 0)], [.int (nI (j % 128))], hp0, 599897, 7298671) (h2, some (.int 1)) := by
  intro j
  have hj : j % 128 < 128 := Nat.mod_lt _ (by decide)
  generalize j % 128 = i at hj ⊢
  match i, hj with
  | 0, _ => exact sw_0 xs
  | 1, _ => exact sw_1 xs
  | 2, _ => exact sw_2 xs
  | 3, _ => exact sw_3 xs
  | 4, _ => exact sw_4 xs
  | 5, _ => exact sw_5 xs
  | 6, _ => exact sw_6 xs
  | 7, _ => exact sw_7 xs
  | 8, _ => exact sw_8 xs
  | 9, _ => exact sw_9 xs
  | 10, _ => exact sw_10 xs
  | 11, _ => exact sw_11 xs
  | 12, _ => exact sw_12 xs
  | 13, _ => exact sw_13 xs
  | 14, _ => exact sw_14 xs
  | 15, _ => exact sw_15 xs
  | 16, _ => exact sw_16 xs
  | 17, _ => exact sw_17 xs
  | 18, _ => exact sw_18 xs
  | 19, _ => exact sw_19 xs
  | 20, _ => exact sw_20 xs
  | 21, _ => exact sw_21 xs
  | 22, _ => exact sw_22 xs
  | 23, _ => exact sw_23 xs
  | 24, _ => exact sw_24 xs
  | 25, _ => exact sw_25 xs
  | 26, _ => exact sw_26 xs
  | 27, _ => exact sw_27 xs
  | 28, _ => exact sw_28 xs
  | 29, _ => exact sw_29 xs
  | 30, _ => exact sw_30 xs
  | 31, _ => exact sw_31 xs
  | 32, _ => exact sw_32 xs
  | 33, _ => exact sw_33 xs
  | 34, _ => exact sw_34 xs
  | 35, _ => exact sw_35 xs
  | 36, _ => exact sw_36 xs
  | 37, _ => exact sw_37 xs
  | 38, _ => exact sw_38 xs
  | 39, _ => exact sw_39 xs
  | 40, _ => exact sw_40 xs
  | 41, _ => exact sw_41 xs
  | 42, _ => exact sw_42 xs
  | 43, _ => exact sw_43 xs
  | 44, _ => exact sw_44 xs
  | 45, _ => exact sw_45 xs
  | 46, _ => exact sw_46 xs
  | 47, _ => exact sw_47 xs
  | 48, _ => exact sw_48 xs
  | 49, _ => exact sw_49 xs
  | 50, _ => exact sw_50 xs
  | 51, _ => exact sw_51 xs
  | 52, _ => exact sw_52 xs
  | 53, _ => exact sw_53 xs
  | 54, _ => exact sw_54 xs
  | 55, _ => exact sw_55 xs
  | 56, _ => exact sw_56 xs
  | 57, _ => exact sw_57 xs
  | 58, _ => exact sw_58 xs
  | 59, _ => exact sw_59 xs
  | 60, _ => exact sw_60 xs
  | 61, _ => exact sw_61 xs
  | 62, _ => exact sw_62 xs
  | 63, _ => exact sw_63 xs
  | 64, _ => exact sw_64 xs
  | 65, _ => exact sw_65 xs
  | 66, _ => exact sw_66 xs
  | 67, _ => exact sw_67 xs
  | 68, _ => exact sw_68 xs
  | 69, _ => exact sw_69 xs
  | 70, _ => exact sw_70 xs
  | 71, _ => exact sw_71 xs
  | 72, _ => exact sw_72 xs
  | 73, _ => exact sw_73 xs
  | 74, _ => exact sw_74 xs
  | 75, _ => exact sw_75 xs
  | 76, _ => exact sw_76 xs
  | 77, _ => exact sw_77 xs
  | 78, _ => exact sw_78 xs
  | 79, _ => exact sw_79 xs
  | 80, _ => exact sw_80 xs
  | 81, _ => exact sw_81 xs
  | i + 82, hj => exact ⟨hp0, Go_tswD rfl (Or.inr (by rw [nI_toInt (by omega)]; omega)) (law_tail xs hp0)⟩
set_option maxRecDepth 20000 in
set_option maxHeartbeats 4000000 in
theorem law_head (L : Nat) (hL : L ≤ 6) (xs : Nat → Int32) : ∃ h2, pm_Go (pm_tr (lb_all L xs)) (pm_Rt pm_P 8) (18, [(3, .int 0), (2, .ref 77), (1, .ref 0), (0, .retAddr 0)], [], hp0, 599897, 7298671) (h2, some (.int 1)) := by
  rcases (show L = 0 ∨ L = 1 ∨ L = 2 ∨ L = 3 ∨ L = 4 ∨ L = 5 ∨ L = 6 by omega) with rfl | rfl | rfl | rfl | rfl | rfl | rfl
  · refine ⟨hp0, ?_⟩
    refine Go_st rfl rfl ?_
    refine Go_st rfl rfl ?_
    refine Go_st rfl rfl ?_
    refine Go_st rfl rfl ?_
    refine Go_bin (v := (-6)) rfl (by decide +kernel) ?_
    refine Go_st rfl rfl ?_
    refine Go_ifT (by decide +kernel) ?_
    refine Go_st rfl rfl ?_
    exact Go_ret rfl ⟨1, rfl, Or.inr rfl, rfl⟩
  · refine ⟨hp0, ?_⟩
    refine Go_st rfl rfl ?_
    refine Go_st rfl rfl ?_
    refine Go_st rfl rfl ?_
    refine Go_st rfl rfl ?_
    refine Go_bin (v := (-5)) rfl (by decide +kernel) ?_
    refine Go_st rfl rfl ?_
    refine Go_ifT (by decide +kernel) ?_
    refine Go_st rfl rfl ?_
    exact Go_ret rfl ⟨1, rfl, Or.inr rfl, rfl⟩
  · refine ⟨hp0, ?_⟩
    refine Go_st rfl rfl ?_
    refine Go_st rfl rfl ?_
    refine Go_st rfl rfl ?_
    refine Go_st rfl rfl ?_
    refine Go_bin (v := (-4)) rfl (by decide +kernel) ?_
    refine Go_st rfl rfl ?_
    refine Go_ifT (by decide +kernel) ?_
    refine Go_st rfl rfl ?_
    exact Go_ret rfl ⟨1, rfl, Or.inr rfl, rfl⟩
  · refine ⟨hp0, ?_⟩
    refine Go_st rfl rfl ?_
    refine Go_st rfl rfl ?_
    refine Go_st rfl rfl ?_
    refine Go_st rfl rfl ?_
    refine Go_bin (v := (-3)) rfl (by decide +kernel) ?_
    refine Go_st rfl rfl ?_
    refine Go_ifT (by decide +kernel) ?_
    refine Go_st rfl rfl ?_
    exact Go_ret rfl ⟨1, rfl, Or.inr rfl, rfl⟩
  · refine ⟨hp0, ?_⟩
    refine Go_st rfl rfl ?_
    refine Go_st rfl rfl ?_
    refine Go_st rfl rfl ?_
    refine Go_st rfl rfl ?_
    refine Go_bin (v := (-2)) rfl (by decide +kernel) ?_
    refine Go_st rfl rfl ?_
    refine Go_ifT (by decide +kernel) ?_
    refine Go_st rfl rfl ?_
    exact Go_ret rfl ⟨1, rfl, Or.inr rfl, rfl⟩
  · refine ⟨hp0, ?_⟩
    refine Go_st rfl rfl ?_
    refine Go_st rfl rfl ?_
    refine Go_st rfl rfl ?_
    refine Go_st rfl rfl ?_
    refine Go_bin (v := (-1)) rfl (by decide +kernel) ?_
    refine Go_st rfl rfl ?_
    refine Go_ifT (by decide +kernel) ?_
    refine Go_st rfl rfl ?_
    exact Go_ret rfl ⟨1, rfl, Or.inr rfl, rfl⟩
  · obtain ⟨j, hj, e⟩ := pk_andE (xs 0) (m := 127) 7 rfl
    obtain ⟨h2, hs⟩ := sw_all xs j
    rw [Nat.mod_eq_of_lt (show j < 128 from hj)] at hs
    refine ⟨h2, ?_⟩
    refine Go_st rfl rfl ?_
    refine Go_st rfl rfl ?_
    refine Go_st rfl rfl ?_
    refine Go_st rfl rfl ?_
    refine Go_bin (v := 0) rfl (by decide +kernel) ?_
    refine Go_st rfl rfl ?_
    refine Go_ifF (by decide +kernel) ?_
    refine Go_st rfl rfl ?_
    refine Go_st rfl rfl ?_
    refine Go_sld (j := 0) rfl (by decide +kernel) (by decide +kernel) ?_
    refine Go_st rfl rfl ?_
    refine Go_bin (v := nI j) rfl e ?_
    exact hs
set_option maxRecDepth 20000 in
set_option maxHeartbeats 4000000 in
theorem p1_pure (L : Nat) (hL : L ≤ 6) (xs : Nat → Int32) : ∃ h2, pm_Go (pm_tr (lb_all L xs)) (pm_Rt pm_P 8) (0, [(0, .retAddr 0)], [], [], 600000, 7302250) (h2, some (.int 1)) := by
  obtain ⟨h2, hh⟩ := law_head L hL xs
  refine ⟨h2, ?_⟩
  refine Go_st rfl rfl ?_
  refine Go_st rfl rfl ?_
  refine Go_call rfl (rc_16 5) (chkV rfl rfl rfl rfl rfl rfl) ?_
  refine Go_st rfl rfl ?_
  refine Go_st rfl rfl ?_
  refine Go_st rfl rfl ?_
  refine Go_call rfl (rc_17 7) (chkV rfl rfl rfl rfl rfl rfl) ?_
  refine Go_st rfl rfl ?_
  refine Go_st rfl rfl ?_
  refine Go_st rfl rfl ?_
  exact hh
/-- from the entry, for every script of at most 6 ints, the law comes to its end with true -/
theorem whole_start {p : Program} {e : Env} {s : State} {m : MethodId} {below : List Frame} {meth : Method} {c : Code} (l : Launch) {b L : Nat} {xs : Nat → Int32} (hL : L ≤ 6) (C0 : lw_At p s m meth c b L xs) : W p l e room_1 s m #[Value.ref b] below meth c s.heap [] 0 0 (lw_Z below #[Value.ref b] s) (entryFrame m ([Value.ref b] : List Value).toArray 4) := by
  obtain ⟨h2, hg⟩ := p1_pure L hL xs
  exact pm_law l C0 (by decide) hg
