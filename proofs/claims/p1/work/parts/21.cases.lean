/-! the law's cases (written by gen_law.py) -/
set_option maxRecDepth 20000 in
set_option maxHeartbeats 4000000 in
theorem law_tail (xs : Nat → Int32) (h : pm_H) : pm_Go (pm_tr (lb_all 6 xs)) (pm_Rt pm_P 8) (2393, [(3, .int 0), (2, .ref 77), (1, .ref 0), (0, .retAddr 0)], [], h, 599897, 7298671) (h, some (.int 1)) := by
  refine Go_incL (v := 6) (lv' := [(3, .int 6), (2, .ref 77), (1, .ref 0), (0, .retAddr 0)]) rfl rfl (by decide +kernel) rfl ?_
  refine Go_st rfl rfl ?_
  refine Go_st rfl rfl ?_
  refine Go_st rfl rfl ?_
  refine Go_st rfl rfl ?_
  refine Go_st rfl rfl ?_
  refine Go_bin (v := 0) rfl (by decide +kernel) ?_
  refine Go_st rfl rfl ?_
  refine Go_ifT (by decide +kernel) ?_
  refine Go_st rfl rfl ?_
  exact Go_ret rfl ⟨1, rfl, Or.inr rfl, rfl⟩
set_option maxRecDepth 20000 in
set_option maxHeartbeats 4000000 in
theorem law_0 (xs : Nat → Int32) : ∃ h2, pm_Go (pm_tr (lb_all 6 xs)) (pm_Rt pm_P 8) (376, [(3, .int 0), (2, .ref 77), (1, .ref 0), (0, .retAddr 0)], [], hp0, 599897, 7298671) (h2, some (.int 1)) := by
  obtain ⟨c, h2, r, hx, hm⟩ := pair_0 (xs 1) (xs 2) (xs 3) (xs 4) (xs 5)
  refine ⟨h2, ?_⟩
  refine Go_st rfl rfl ?_
  refine Go_st rfl rfl ?_
  refine Go_st rfl rfl ?_
  refine Go_st rfl rfl ?_
  refine Go_bin (v := 1) rfl (by decide +kernel) ?_
  refine Go_sld (j := 1) rfl (by decide +kernel) (by decide +kernel) ?_
  refine Go_st rfl rfl ?_
  refine Go_st rfl rfl ?_
  refine Go_st rfl rfl ?_
  refine Go_bin (v := 2) rfl (by decide +kernel) ?_
  refine Go_sld (j := 2) rfl (by decide +kernel) (by decide +kernel) ?_
  refine Go_st rfl rfl ?_
  refine Go_st rfl rfl ?_
  refine Go_st rfl rfl ?_
  refine Go_bin (v := 3) rfl (by decide +kernel) ?_
  refine Go_sld (j := 3) rfl (by decide +kernel) (by decide +kernel) ?_
  refine Go_st rfl rfl ?_
  refine Go_st rfl rfl ?_
  refine Go_st rfl rfl ?_
  refine Go_bin (v := 4) rfl (by decide +kernel) ?_
  refine Go_sld (j := 4) rfl (by decide +kernel) (by decide +kernel) ?_
  refine Go_st rfl rfl ?_
  refine Go_st rfl rfl ?_
  refine Go_st rfl rfl ?_
  refine Go_bin (v := 5) rfl (by decide +kernel) ?_
  refine Go_sld (j := 5) rfl (by decide +kernel) (by decide +kernel) ?_
  refine Go_call rfl hx (chkV rfl rfl rfl rfl rfl rfl) ?_
  refine Go_st rfl rfl ?_
  refine Go_st rfl rfl ?_
  refine Go_st rfl rfl ?_
  refine Go_st rfl rfl ?_
  refine Go_bin (v := 1) rfl (by decide +kernel) ?_
  refine Go_sld (j := 1) rfl (by decide +kernel) (by decide +kernel) ?_
  refine Go_st rfl rfl ?_
  refine Go_st rfl rfl ?_
  refine Go_st rfl rfl ?_
  refine Go_bin (v := 2) rfl (by decide +kernel) ?_
  refine Go_sld (j := 2) rfl (by decide +kernel) (by decide +kernel) ?_
  refine Go_st rfl rfl ?_
  refine Go_st rfl rfl ?_
  refine Go_st rfl rfl ?_
  refine Go_bin (v := 3) rfl (by decide +kernel) ?_
  refine Go_sld (j := 3) rfl (by decide +kernel) (by decide +kernel) ?_
  refine Go_st rfl rfl ?_
  refine Go_st rfl rfl ?_
  refine Go_st rfl rfl ?_
  refine Go_bin (v := 4) rfl (by decide +kernel) ?_
  refine Go_sld (j := 4) rfl (by decide +kernel) (by decide +kernel) ?_
  refine Go_st rfl rfl ?_
  refine Go_st rfl rfl ?_
  refine Go_st rfl rfl ?_
  refine Go_bin (v := 5) rfl (by decide +kernel) ?_
  refine Go_sld (j := 5) rfl (by decide +kernel) (by decide +kernel) ?_
  refine Go_call rfl hm (chkV rfl rfl rfl rfl rfl rfl) ?_
  refine Go_st rfl rfl ?_
  refine Go_ifT (decide_eq_true rfl) ?_
  exact law_tail xs h2
set_option maxRecDepth 20000 in
set_option maxHeartbeats 4000000 in
theorem law_1 (xs : Nat → Int32) : ∃ h2, pm_Go (pm_tr (lb_all 6 xs)) (pm_Rt pm_P 8) (439, [(3, .int 0), (2, .ref 77), (1, .ref 0), (0, .retAddr 0)], [], hp0, 599897, 7298671) (h2, some (.int 1)) := by
  obtain ⟨c, h2, r, hx, hm⟩ := pair_1 (xs 1)
  refine ⟨h2, ?_⟩
  refine Go_st rfl rfl ?_
  refine Go_st rfl rfl ?_
  refine Go_st rfl rfl ?_
  refine Go_st rfl rfl ?_
  refine Go_bin (v := 1) rfl (by decide +kernel) ?_
  refine Go_sld (j := 1) rfl (by decide +kernel) (by decide +kernel) ?_
  refine Go_call rfl hx (chkV rfl rfl rfl rfl rfl rfl) ?_
  refine Go_st rfl rfl ?_
  refine Go_st rfl rfl ?_
  refine Go_st rfl rfl ?_
  refine Go_st rfl rfl ?_
  refine Go_bin (v := 1) rfl (by decide +kernel) ?_
  refine Go_sld (j := 1) rfl (by decide +kernel) (by decide +kernel) ?_
  refine Go_call rfl hm (chkV rfl rfl rfl rfl rfl rfl) ?_
  refine Go_st rfl rfl ?_
  refine Go_ifT (decide_eq_true rfl) ?_
  exact law_tail xs h2
set_option maxRecDepth 20000 in
set_option maxHeartbeats 4000000 in
theorem law_2 (xs : Nat → Int32) : ∃ h2, pm_Go (pm_tr (lb_all 6 xs)) (pm_Rt pm_P 8) (462, [(3, .int 0), (2, .ref 77), (1, .ref 0), (0, .retAddr 0)], [], hp0, 599897, 7298671) (h2, some (.int 1)) := by
  obtain ⟨c, h2, r, hx, hm⟩ := pair_2 
  refine ⟨h2, ?_⟩
  refine Go_st rfl rfl ?_
  refine Go_call rfl hx (chkV rfl rfl rfl rfl rfl rfl) ?_
  refine Go_st rfl rfl ?_
  refine Go_call rfl hm (chkV rfl rfl rfl rfl rfl rfl) ?_
  refine Go_st rfl rfl ?_
  refine Go_ifT (decide_eq_true rfl) ?_
  exact law_tail xs h2
set_option maxRecDepth 20000 in
set_option maxHeartbeats 4000000 in
theorem law_3 (xs : Nat → Int32) : ∃ h2, pm_Go (pm_tr (lb_all 6 xs)) (pm_Rt pm_P 8) (475, [(3, .int 0), (2, .ref 77), (1, .ref 0), (0, .retAddr 0)], [], hp0, 599897, 7298671) (h2, some (.int 1)) := by
  obtain ⟨c, h2, r, hx, hm⟩ := pair_3 (xs 1)
  refine ⟨h2, ?_⟩
  refine Go_st rfl rfl ?_
  refine Go_st rfl rfl ?_
  refine Go_st rfl rfl ?_
  refine Go_st rfl rfl ?_
  refine Go_bin (v := 1) rfl (by decide +kernel) ?_
  refine Go_sld (j := 1) rfl (by decide +kernel) (by decide +kernel) ?_
  refine Go_call rfl hx (chkV rfl rfl rfl rfl rfl rfl) ?_
  refine Go_st rfl rfl ?_
  refine Go_st rfl rfl ?_
  refine Go_st rfl rfl ?_
  refine Go_st rfl rfl ?_
  refine Go_bin (v := 1) rfl (by decide +kernel) ?_
  refine Go_sld (j := 1) rfl (by decide +kernel) (by decide +kernel) ?_
  refine Go_call rfl hm (chkV rfl rfl rfl rfl rfl rfl) ?_
  refine Go_st rfl rfl ?_
  refine Go_ifT (decide_eq_true rfl) ?_
  exact law_tail xs h2
set_option maxRecDepth 20000 in
set_option maxHeartbeats 4000000 in
theorem law_4 (xs : Nat → Int32) : ∃ h2, pm_Go (pm_tr (lb_all 6 xs)) (pm_Rt pm_P 8) (498, [(3, .int 0), (2, .ref 77), (1, .ref 0), (0, .retAddr 0)], [], hp0, 599897, 7298671) (h2, some (.int 1)) := by
  obtain ⟨c, h2, r, hx, hm⟩ := pair_4 (xs 1) (xs 2)
  refine ⟨h2, ?_⟩
  refine Go_st rfl rfl ?_
  refine Go_st rfl rfl ?_
  refine Go_st rfl rfl ?_
  refine Go_st rfl rfl ?_
  refine Go_bin (v := 1) rfl (by decide +kernel) ?_
  refine Go_sld (j := 1) rfl (by decide +kernel) (by decide +kernel) ?_
  refine Go_st rfl rfl ?_
  refine Go_st rfl rfl ?_
  refine Go_st rfl rfl ?_
  refine Go_bin (v := 2) rfl (by decide +kernel) ?_
  refine Go_sld (j := 2) rfl (by decide +kernel) (by decide +kernel) ?_
  refine Go_call rfl hx (chkV rfl rfl rfl rfl rfl rfl) ?_
  refine Go_st rfl rfl ?_
  refine Go_st rfl rfl ?_
  refine Go_st rfl rfl ?_
  refine Go_st rfl rfl ?_
  refine Go_bin (v := 1) rfl (by decide +kernel) ?_
  refine Go_sld (j := 1) rfl (by decide +kernel) (by decide +kernel) ?_
  refine Go_st rfl rfl ?_
  refine Go_st rfl rfl ?_
  refine Go_st rfl rfl ?_
  refine Go_bin (v := 2) rfl (by decide +kernel) ?_
  refine Go_sld (j := 2) rfl (by decide +kernel) (by decide +kernel) ?_
  refine Go_call rfl hm (chkV rfl rfl rfl rfl rfl rfl) ?_
  refine Go_st rfl rfl ?_
  refine Go_ifT (decide_eq_true rfl) ?_
  exact law_tail xs h2
set_option maxRecDepth 20000 in
set_option maxHeartbeats 4000000 in
theorem law_5 (xs : Nat → Int32) : ∃ h2, pm_Go (pm_tr (lb_all 6 xs)) (pm_Rt pm_P 8) (531, [(3, .int 0), (2, .ref 77), (1, .ref 0), (0, .retAddr 0)], [], hp0, 599897, 7298671) (h2, some (.int 1)) := by
  obtain ⟨c, h2, r, hx, hm⟩ := pair_5 (xs 1)
  refine ⟨h2, ?_⟩
  refine Go_st rfl rfl ?_
  refine Go_st rfl rfl ?_
  refine Go_st rfl rfl ?_
  refine Go_st rfl rfl ?_
  refine Go_bin (v := 1) rfl (by decide +kernel) ?_
  refine Go_sld (j := 1) rfl (by decide +kernel) (by decide +kernel) ?_
  refine Go_call rfl hx (chkV rfl rfl rfl rfl rfl rfl) ?_
  refine Go_st rfl rfl ?_
  refine Go_st rfl rfl ?_
  refine Go_st rfl rfl ?_
  refine Go_st rfl rfl ?_
  refine Go_bin (v := 1) rfl (by decide +kernel) ?_
  refine Go_sld (j := 1) rfl (by decide +kernel) (by decide +kernel) ?_
  refine Go_call rfl hm (chkV rfl rfl rfl rfl rfl rfl) ?_
  refine Go_st rfl rfl ?_
  refine Go_ifT (decide_eq_true rfl) ?_
  exact law_tail xs h2
set_option maxRecDepth 20000 in
set_option maxHeartbeats 4000000 in
theorem law_6 (xs : Nat → Int32) : ∃ h2, pm_Go (pm_tr (lb_all 6 xs)) (pm_Rt pm_P 8) (554, [(3, .int 0), (2, .ref 77), (1, .ref 0), (0, .retAddr 0)], [], hp0, 599897, 7298671) (h2, some (.int 1)) := by
  obtain ⟨c, h2, r, hx, hm⟩ := pair_6 (xs 1)
  refine ⟨h2, ?_⟩
  refine Go_st rfl rfl ?_
  refine Go_st rfl rfl ?_
  refine Go_st rfl rfl ?_
  refine Go_st rfl rfl ?_
  refine Go_bin (v := 1) rfl (by decide +kernel) ?_
  refine Go_sld (j := 1) rfl (by decide +kernel) (by decide +kernel) ?_
  refine Go_call rfl hx (chkV rfl rfl rfl rfl rfl rfl) ?_
  refine Go_st rfl rfl ?_
  refine Go_st rfl rfl ?_
  refine Go_st rfl rfl ?_
  refine Go_st rfl rfl ?_
  refine Go_bin (v := 1) rfl (by decide +kernel) ?_
  refine Go_sld (j := 1) rfl (by decide +kernel) (by decide +kernel) ?_
  refine Go_call rfl hm (chkV rfl rfl rfl rfl rfl rfl) ?_
  refine Go_st rfl rfl ?_
  refine Go_ifT (decide_eq_true rfl) ?_
  exact law_tail xs h2
set_option maxRecDepth 20000 in
set_option maxHeartbeats 4000000 in
theorem law_7 (xs : Nat → Int32) : ∃ h2, pm_Go (pm_tr (lb_all 6 xs)) (pm_Rt pm_P 8) (577, [(3, .int 0), (2, .ref 77), (1, .ref 0), (0, .retAddr 0)], [], hp0, 599897, 7298671) (h2, some (.int 1)) := by
  obtain ⟨c, h2, r, hx, hm⟩ := pair_7 
  refine ⟨h2, ?_⟩
  refine Go_st rfl rfl ?_
  refine Go_call rfl hx (chkV rfl rfl rfl rfl rfl rfl) ?_
  refine Go_st rfl rfl ?_
  refine Go_call rfl hm (chkV rfl rfl rfl rfl rfl rfl) ?_
  refine Go_st rfl rfl ?_
  refine Go_ifT (decide_eq_true rfl) ?_
  exact law_tail xs h2
set_option maxRecDepth 20000 in
set_option maxHeartbeats 4000000 in
theorem law_8 (xs : Nat → Int32) : ∃ h2, pm_Go (pm_tr (lb_all 6 xs)) (pm_Rt pm_P 8) (590, [(3, .int 0), (2, .ref 77), (1, .ref 0), (0, .retAddr 0)], [], hp0, 599897, 7298671) (h2, some (.int 1)) := by
  obtain ⟨c, h2, r, hx, hm⟩ := pair_8 
  refine ⟨h2, ?_⟩
  refine Go_st rfl rfl ?_
  refine Go_call rfl hx (chkV rfl rfl rfl rfl rfl rfl) ?_
  refine Go_st rfl rfl ?_
  refine Go_call rfl hm (chkV rfl rfl rfl rfl rfl rfl) ?_
  refine Go_st rfl rfl ?_
  refine Go_ifT (decide_eq_true rfl) ?_
  exact law_tail xs h2
set_option maxRecDepth 20000 in
set_option maxHeartbeats 4000000 in
theorem law_9 (xs : Nat → Int32) : ∃ h2, pm_Go (pm_tr (lb_all 6 xs)) (pm_Rt pm_P 8) (603, [(3, .int 0), (2, .ref 77), (1, .ref 0), (0, .retAddr 0)], [], hp0, 599897, 7298671) (h2, some (.int 1)) := by
  obtain ⟨c, h2, r, hx, hm⟩ := pair_9 (xs 1)
  refine ⟨h2, ?_⟩
  refine Go_st rfl rfl ?_
  refine Go_st rfl rfl ?_
  refine Go_st rfl rfl ?_
  refine Go_st rfl rfl ?_
  refine Go_bin (v := 1) rfl (by decide +kernel) ?_
  refine Go_sld (j := 1) rfl (by decide +kernel) (by decide +kernel) ?_
  refine Go_call rfl hx (chkV rfl rfl rfl rfl rfl rfl) ?_
  refine Go_st rfl rfl ?_
  refine Go_st rfl rfl ?_
  refine Go_st rfl rfl ?_
  refine Go_st rfl rfl ?_
  refine Go_bin (v := 1) rfl (by decide +kernel) ?_
  refine Go_sld (j := 1) rfl (by decide +kernel) (by decide +kernel) ?_
  refine Go_call rfl hm (chkV rfl rfl rfl rfl rfl rfl) ?_
  refine Go_st rfl rfl ?_
  refine Go_ifT (decide_eq_true rfl) ?_
  exact law_tail xs h2
set_option maxRecDepth 20000 in
set_option maxHeartbeats 4000000 in
theorem law_10 (xs : Nat → Int32) : ∃ h2, pm_Go (pm_tr (lb_all 6 xs)) (pm_Rt pm_P 8) (626, [(3, .int 0), (2, .ref 77), (1, .ref 0), (0, .retAddr 0)], [], hp0, 599897, 7298671) (h2, some (.int 1)) := by
  obtain ⟨c, h2, r, hx, hm⟩ := pair_10 
  refine ⟨h2, ?_⟩
  refine Go_st rfl rfl ?_
  refine Go_call rfl hx (chkV rfl rfl rfl rfl rfl rfl) ?_
  refine Go_st rfl rfl ?_
  refine Go_call rfl hm (chkV rfl rfl rfl rfl rfl rfl) ?_
  refine Go_st rfl rfl ?_
  refine Go_ifT (decide_eq_true rfl) ?_
  exact law_tail xs h2
set_option maxRecDepth 20000 in
set_option maxHeartbeats 4000000 in
theorem law_11 (xs : Nat → Int32) : ∃ h2, pm_Go (pm_tr (lb_all 6 xs)) (pm_Rt pm_P 8) (639, [(3, .int 0), (2, .ref 77), (1, .ref 0), (0, .retAddr 0)], [], hp0, 599897, 7298671) (h2, some (.int 1)) := by
  obtain ⟨c, h2, r, hx, hm⟩ := pair_11 
  refine ⟨h2, ?_⟩
  refine Go_st rfl rfl ?_
  refine Go_call rfl hx (chkV rfl rfl rfl rfl rfl rfl) ?_
  refine Go_st rfl rfl ?_
  refine Go_call rfl hm (chkV rfl rfl rfl rfl rfl rfl) ?_
  refine Go_st rfl rfl ?_
  refine Go_ifT (decide_eq_true rfl) ?_
  exact law_tail xs h2
set_option maxRecDepth 20000 in
set_option maxHeartbeats 4000000 in
theorem law_12 (xs : Nat → Int32) : ∃ h2, pm_Go (pm_tr (lb_all 6 xs)) (pm_Rt pm_P 8) (652, [(3, .int 0), (2, .ref 77), (1, .ref 0), (0, .retAddr 0)], [], hp0, 599897, 7298671) (h2, some (.int 1)) := by
  obtain ⟨c, h2, r, hx, hm⟩ := pair_12 
  refine ⟨h2, ?_⟩
  refine Go_st rfl rfl ?_
  refine Go_call rfl hx (chkV rfl rfl rfl rfl rfl rfl) ?_
  refine Go_st rfl rfl ?_
  refine Go_call rfl hm (chkV rfl rfl rfl rfl rfl rfl) ?_
  refine Go_st rfl rfl ?_
  refine Go_ifT (decide_eq_true rfl) ?_
  exact law_tail xs h2
set_option maxRecDepth 20000 in
set_option maxHeartbeats 4000000 in
theorem law_13 (xs : Nat → Int32) : ∃ h2, pm_Go (pm_tr (lb_all 6 xs)) (pm_Rt pm_P 8) (665, [(3, .int 0), (2, .ref 77), (1, .ref 0), (0, .retAddr 0)], [], hp0, 599897, 7298671) (h2, some (.int 1)) := by
  obtain ⟨c, h2, r, hx, hm⟩ := pair_13 
  refine ⟨h2, ?_⟩
  refine Go_st rfl rfl ?_
  refine Go_call rfl hx (chkV rfl rfl rfl rfl rfl rfl) ?_
  refine Go_st rfl rfl ?_
  refine Go_call rfl hm (chkV rfl rfl rfl rfl rfl rfl) ?_
  refine Go_st rfl rfl ?_
  refine Go_ifT (decide_eq_true rfl) ?_
  exact law_tail xs h2
set_option maxRecDepth 20000 in
set_option maxHeartbeats 4000000 in
theorem law_14 (xs : Nat → Int32) : ∃ h2, pm_Go (pm_tr (lb_all 6 xs)) (pm_Rt pm_P 8) (678, [(3, .int 0), (2, .ref 77), (1, .ref 0), (0, .retAddr 0)], [], hp0, 599897, 7298671) (h2, some (.int 1)) := by
  obtain ⟨c, h2, r, hx, hm⟩ := pair_14 (xs 1)
  refine ⟨h2, ?_⟩
  refine Go_st rfl rfl ?_
  refine Go_st rfl rfl ?_
  refine Go_st rfl rfl ?_
  refine Go_st rfl rfl ?_
  refine Go_bin (v := 1) rfl (by decide +kernel) ?_
  refine Go_sld (j := 1) rfl (by decide +kernel) (by decide +kernel) ?_
  refine Go_call rfl hx (chkV rfl rfl rfl rfl rfl rfl) ?_
  refine Go_st rfl rfl ?_
  refine Go_st rfl rfl ?_
  refine Go_st rfl rfl ?_
  refine Go_st rfl rfl ?_
  refine Go_bin (v := 1) rfl (by decide +kernel) ?_
  refine Go_sld (j := 1) rfl (by decide +kernel) (by decide +kernel) ?_
  refine Go_call rfl hm (chkV rfl rfl rfl rfl rfl rfl) ?_
  refine Go_st rfl rfl ?_
  refine Go_ifT (decide_eq_true rfl) ?_
  exact law_tail xs h2
set_option maxRecDepth 20000 in
set_option maxHeartbeats 4000000 in
theorem law_15 (xs : Nat → Int32) : ∃ h2, pm_Go (pm_tr (lb_all 6 xs)) (pm_Rt pm_P 8) (701, [(3, .int 0), (2, .ref 77), (1, .ref 0), (0, .retAddr 0)], [], hp0, 599897, 7298671) (h2, some (.int 1)) := by
  obtain ⟨c, h2, r, hx, hm⟩ := pair_15 
  refine ⟨h2, ?_⟩
  refine Go_st rfl rfl ?_
  refine Go_call rfl hx (chkV rfl rfl rfl rfl rfl rfl) ?_
  refine Go_st rfl rfl ?_
  refine Go_call rfl hm (chkV rfl rfl rfl rfl rfl rfl) ?_
  refine Go_st rfl rfl ?_
  refine Go_ifT (decide_eq_true rfl) ?_
  exact law_tail xs h2
set_option maxRecDepth 20000 in
set_option maxHeartbeats 4000000 in
theorem law_16 (xs : Nat → Int32) : ∃ h2, pm_Go (pm_tr (lb_all 6 xs)) (pm_Rt pm_P 8) (714, [(3, .int 0), (2, .ref 77), (1, .ref 0), (0, .retAddr 0)], [], hp0, 599897, 7298671) (h2, some (.int 1)) := by
  obtain ⟨c, h2, r, hx, hm⟩ := pair_16 
  refine ⟨h2, ?_⟩
  refine Go_st rfl rfl ?_
  refine Go_call rfl hx (chkV rfl rfl rfl rfl rfl rfl) ?_
  refine Go_st rfl rfl ?_
  refine Go_call rfl hm (chkV rfl rfl rfl rfl rfl rfl) ?_
  refine Go_st rfl rfl ?_
  refine Go_ifT (decide_eq_true rfl) ?_
  exact law_tail xs h2
set_option maxRecDepth 20000 in
set_option maxHeartbeats 4000000 in
theorem law_17 (xs : Nat → Int32) : ∃ h2, pm_Go (pm_tr (lb_all 6 xs)) (pm_Rt pm_P 8) (727, [(3, .int 0), (2, .ref 77), (1, .ref 0), (0, .retAddr 0)], [], hp0, 599897, 7298671) (h2, some (.int 1)) := by
  obtain ⟨c, h2, r, hx, hm⟩ := pair_17 
  refine ⟨h2, ?_⟩
  refine Go_st rfl rfl ?_
  refine Go_call rfl hx (chkV rfl rfl rfl rfl rfl rfl) ?_
  refine Go_st rfl rfl ?_
  refine Go_call rfl hm (chkV rfl rfl rfl rfl rfl rfl) ?_
  refine Go_st rfl rfl ?_
  refine Go_ifT (decide_eq_true rfl) ?_
  exact law_tail xs h2
set_option maxRecDepth 20000 in
set_option maxHeartbeats 4000000 in
theorem law_18 (xs : Nat → Int32) : ∃ h2, pm_Go (pm_tr (lb_all 6 xs)) (pm_Rt pm_P 8) (740, [(3, .int 0), (2, .ref 77), (1, .ref 0), (0, .retAddr 0)], [], hp0, 599897, 7298671) (h2, some (.int 1)) := by
  obtain ⟨c, h2, r, hx, hm⟩ := pair_18 
  refine ⟨h2, ?_⟩
  refine Go_st rfl rfl ?_
  refine Go_call rfl hx (chkV rfl rfl rfl rfl rfl rfl) ?_
  refine Go_st rfl rfl ?_
  refine Go_call rfl hm (chkV rfl rfl rfl rfl rfl rfl) ?_
  refine Go_st rfl rfl ?_
  refine Go_ifT (decide_eq_true rfl) ?_
  exact law_tail xs h2
set_option maxRecDepth 20000 in
set_option maxHeartbeats 4000000 in
theorem law_19 (xs : Nat → Int32) : ∃ h2, pm_Go (pm_tr (lb_all 6 xs)) (pm_Rt pm_P 8) (753, [(3, .int 0), (2, .ref 77), (1, .ref 0), (0, .retAddr 0)], [], hp0, 599897, 7298671) (h2, some (.int 1)) := by
  obtain ⟨c, h2, r, hx, hm⟩ := pair_19 (xs 1)
  refine ⟨h2, ?_⟩
  refine Go_st rfl rfl ?_
  refine Go_st rfl rfl ?_
  refine Go_st rfl rfl ?_
  refine Go_st rfl rfl ?_
  refine Go_bin (v := 1) rfl (by decide +kernel) ?_
  refine Go_sld (j := 1) rfl (by decide +kernel) (by decide +kernel) ?_
  refine Go_call rfl hx (chkV rfl rfl rfl rfl rfl rfl) ?_
  refine Go_st rfl rfl ?_
  refine Go_st rfl rfl ?_
  refine Go_st rfl rfl ?_
  refine Go_st rfl rfl ?_
  refine Go_bin (v := 1) rfl (by decide +kernel) ?_
  refine Go_sld (j := 1) rfl (by decide +kernel) (by decide +kernel) ?_
  refine Go_call rfl hm (chkV rfl rfl rfl rfl rfl rfl) ?_
  refine Go_st rfl rfl ?_
  refine Go_ifT (decide_eq_true rfl) ?_
  exact law_tail xs h2
set_option maxRecDepth 20000 in
set_option maxHeartbeats 4000000 in
theorem law_20 (xs : Nat → Int32) : ∃ h2, pm_Go (pm_tr (lb_all 6 xs)) (pm_Rt pm_P 8) (776, [(3, .int 0), (2, .ref 77), (1, .ref 0), (0, .retAddr 0)], [], hp0, 599897, 7298671) (h2, some (.int 1)) := by
  obtain ⟨c, h2, r, hx, hm⟩ := pair_20 
  refine ⟨h2, ?_⟩
  refine Go_st rfl rfl ?_
  refine Go_call rfl hx (chkV rfl rfl rfl rfl rfl rfl) ?_
  refine Go_st rfl rfl ?_
  refine Go_call rfl hm (chkV rfl rfl rfl rfl rfl rfl) ?_
  refine Go_st rfl rfl ?_
  refine Go_ifT (decide_eq_true rfl) ?_
  exact law_tail xs h2
set_option maxRecDepth 20000 in
set_option maxHeartbeats 4000000 in
theorem law_21 (xs : Nat → Int32) : ∃ h2, pm_Go (pm_tr (lb_all 6 xs)) (pm_Rt pm_P 8) (789, [(3, .int 0), (2, .ref 77), (1, .ref 0), (0, .retAddr 0)], [], hp0, 599897, 7298671) (h2, some (.int 1)) := by
  obtain ⟨c, h2, r, hx, hm⟩ := pair_21 
  refine ⟨h2, ?_⟩
  refine Go_st rfl rfl ?_
  refine Go_call rfl hx (chkV rfl rfl rfl rfl rfl rfl) ?_
  refine Go_st rfl rfl ?_
  refine Go_call rfl hm (chkV rfl rfl rfl rfl rfl rfl) ?_
  refine Go_st rfl rfl ?_
  refine Go_ifT (decide_eq_true rfl) ?_
  exact law_tail xs h2
set_option maxRecDepth 20000 in
set_option maxHeartbeats 4000000 in
theorem law_22 (xs : Nat → Int32) : ∃ h2, pm_Go (pm_tr (lb_all 6 xs)) (pm_Rt pm_P 8) (802, [(3, .int 0), (2, .ref 77), (1, .ref 0), (0, .retAddr 0)], [], hp0, 599897, 7298671) (h2, some (.int 1)) := by
  obtain ⟨c, h2, r, hx, hm⟩ := pair_22 (xs 1) (xs 2)
  refine ⟨h2, ?_⟩
  refine Go_st rfl rfl ?_
  refine Go_st rfl rfl ?_
  refine Go_st rfl rfl ?_
  refine Go_st rfl rfl ?_
  refine Go_bin (v := 1) rfl (by decide +kernel) ?_
  refine Go_sld (j := 1) rfl (by decide +kernel) (by decide +kernel) ?_
  refine Go_st rfl rfl ?_
  refine Go_st rfl rfl ?_
  refine Go_st rfl rfl ?_
  refine Go_bin (v := 2) rfl (by decide +kernel) ?_
  refine Go_sld (j := 2) rfl (by decide +kernel) (by decide +kernel) ?_
  refine Go_call rfl hx (chkV rfl rfl rfl rfl rfl rfl) ?_
  refine Go_st rfl rfl ?_
  refine Go_st rfl rfl ?_
  refine Go_st rfl rfl ?_
  refine Go_st rfl rfl ?_
  refine Go_bin (v := 1) rfl (by decide +kernel) ?_
  refine Go_sld (j := 1) rfl (by decide +kernel) (by decide +kernel) ?_
  refine Go_st rfl rfl ?_
  refine Go_st rfl rfl ?_
  refine Go_st rfl rfl ?_
  refine Go_bin (v := 2) rfl (by decide +kernel) ?_
  refine Go_sld (j := 2) rfl (by decide +kernel) (by decide +kernel) ?_
  refine Go_call rfl hm (chkV rfl rfl rfl rfl rfl rfl) ?_
  refine Go_st rfl rfl ?_
  refine Go_ifT (decide_eq_true rfl) ?_
  exact law_tail xs h2
set_option maxRecDepth 20000 in
set_option maxHeartbeats 4000000 in
theorem law_23 (xs : Nat → Int32) : ∃ h2, pm_Go (pm_tr (lb_all 6 xs)) (pm_Rt pm_P 8) (835, [(3, .int 0), (2, .ref 77), (1, .ref 0), (0, .retAddr 0)], [], hp0, 599897, 7298671) (h2, some (.int 1)) := by
  obtain ⟨c, h2, r, hx, hm⟩ := pair_23 (xs 1)
  refine ⟨h2, ?_⟩
  refine Go_st rfl rfl ?_
  refine Go_st rfl rfl ?_
  refine Go_st rfl rfl ?_
  refine Go_st rfl rfl ?_
  refine Go_bin (v := 1) rfl (by decide +kernel) ?_
  refine Go_sld (j := 1) rfl (by decide +kernel) (by decide +kernel) ?_
  refine Go_call rfl hx (chkV rfl rfl rfl rfl rfl rfl) ?_
  refine Go_st rfl rfl ?_
  refine Go_st rfl rfl ?_
  refine Go_st rfl rfl ?_
  refine Go_st rfl rfl ?_
  refine Go_bin (v := 1) rfl (by decide +kernel) ?_
  refine Go_sld (j := 1) rfl (by decide +kernel) (by decide +kernel) ?_
  refine Go_call rfl hm (chkV rfl rfl rfl rfl rfl rfl) ?_
  refine Go_st rfl rfl ?_
  refine Go_ifT (decide_eq_true rfl) ?_
  exact law_tail xs h2
set_option maxRecDepth 20000 in
set_option maxHeartbeats 4000000 in
theorem law_24 (xs : Nat → Int32) : ∃ h2, pm_Go (pm_tr (lb_all 6 xs)) (pm_Rt pm_P 8) (858, [(3, .int 0), (2, .ref 77), (1, .ref 0), (0, .retAddr 0)], [], hp0, 599897, 7298671) (h2, some (.int 1)) := by
  obtain ⟨c, h2, r, hx, hm⟩ := pair_24 (xs 1)
  refine ⟨h2, ?_⟩
  refine Go_st rfl rfl ?_
  refine Go_st rfl rfl ?_
  refine Go_st rfl rfl ?_
  refine Go_st rfl rfl ?_
  refine Go_bin (v := 1) rfl (by decide +kernel) ?_
  refine Go_sld (j := 1) rfl (by decide +kernel) (by decide +kernel) ?_
  refine Go_call rfl hx (chkV rfl rfl rfl rfl rfl rfl) ?_
  refine Go_st rfl rfl ?_
  refine Go_st rfl rfl ?_
  refine Go_st rfl rfl ?_
  refine Go_st rfl rfl ?_
  refine Go_bin (v := 1) rfl (by decide +kernel) ?_
  refine Go_sld (j := 1) rfl (by decide +kernel) (by decide +kernel) ?_
  refine Go_call rfl hm (chkV rfl rfl rfl rfl rfl rfl) ?_
  refine Go_st rfl rfl ?_
  refine Go_ifT (decide_eq_true rfl) ?_
  exact law_tail xs h2
set_option maxRecDepth 20000 in
set_option maxHeartbeats 4000000 in
theorem law_25 (xs : Nat → Int32) : ∃ h2, pm_Go (pm_tr (lb_all 6 xs)) (pm_Rt pm_P 8) (881, [(3, .int 0), (2, .ref 77), (1, .ref 0), (0, .retAddr 0)], [], hp0, 599897, 7298671) (h2, some (.int 1)) := by
  obtain ⟨c, h2, r, hx, hm⟩ := pair_25 (xs 1)
  refine ⟨h2, ?_⟩
  refine Go_st rfl rfl ?_
  refine Go_st rfl rfl ?_
  refine Go_st rfl rfl ?_
  refine Go_st rfl rfl ?_
  refine Go_bin (v := 1) rfl (by decide +kernel) ?_
  refine Go_sld (j := 1) rfl (by decide +kernel) (by decide +kernel) ?_
  refine Go_call rfl hx (chkV rfl rfl rfl rfl rfl rfl) ?_
  refine Go_st rfl rfl ?_
  refine Go_st rfl rfl ?_
  refine Go_st rfl rfl ?_
  refine Go_st rfl rfl ?_
  refine Go_bin (v := 1) rfl (by decide +kernel) ?_
  refine Go_sld (j := 1) rfl (by decide +kernel) (by decide +kernel) ?_
  refine Go_call rfl hm (chkV rfl rfl rfl rfl rfl rfl) ?_
  refine Go_st rfl rfl ?_
  refine Go_ifT (decide_eq_true rfl) ?_
  exact law_tail xs h2
set_option maxRecDepth 20000 in
set_option maxHeartbeats 4000000 in
theorem law_26 (xs : Nat → Int32) : ∃ h2, pm_Go (pm_tr (lb_all 6 xs)) (pm_Rt pm_P 8) (904, [(3, .int 0), (2, .ref 77), (1, .ref 0), (0, .retAddr 0)], [], hp0, 599897, 7298671) (h2, some (.int 1)) := by
  obtain ⟨c, h2, r, hx, hm⟩ := pair_26 (xs 1)
  refine ⟨h2, ?_⟩
  refine Go_st rfl rfl ?_
  refine Go_st rfl rfl ?_
  refine Go_st rfl rfl ?_
  refine Go_st rfl rfl ?_
  refine Go_bin (v := 1) rfl (by decide +kernel) ?_
  refine Go_sld (j := 1) rfl (by decide +kernel) (by decide +kernel) ?_
  refine Go_call rfl hx (chkV rfl rfl rfl rfl rfl rfl) ?_
  refine Go_st rfl rfl ?_
  refine Go_st rfl rfl ?_
  refine Go_st rfl rfl ?_
  refine Go_st rfl rfl ?_
  refine Go_bin (v := 1) rfl (by decide +kernel) ?_
  refine Go_sld (j := 1) rfl (by decide +kernel) (by decide +kernel) ?_
  refine Go_call rfl hm (chkV rfl rfl rfl rfl rfl rfl) ?_
  refine Go_st rfl rfl ?_
  refine Go_ifT (decide_eq_true rfl) ?_
  exact law_tail xs h2
set_option maxRecDepth 20000 in
set_option maxHeartbeats 4000000 in
theorem law_27 (xs : Nat → Int32) : ∃ h2, pm_Go (pm_tr (lb_all 6 xs)) (pm_Rt pm_P 8) (927, [(3, .int 0), (2, .ref 77), (1, .ref 0), (0, .retAddr 0)], [], hp0, 599897, 7298671) (h2, some (.int 1)) := by
  obtain ⟨c, h2, r, hx, hm⟩ := pair_27 
  refine ⟨h2, ?_⟩
  refine Go_st rfl rfl ?_
  refine Go_call rfl hx (chkV rfl rfl rfl rfl rfl rfl) ?_
  refine Go_st rfl rfl ?_
  refine Go_call rfl hm (chkV rfl rfl rfl rfl rfl rfl) ?_
  refine Go_st rfl rfl ?_
  refine Go_ifT (decide_eq_true rfl) ?_
  exact law_tail xs h2
set_option maxRecDepth 20000 in
set_option maxHeartbeats 4000000 in
theorem law_28 (xs : Nat → Int32) : ∃ h2, pm_Go (pm_tr (lb_all 6 xs)) (pm_Rt pm_P 8) (940, [(3, .int 0), (2, .ref 77), (1, .ref 0), (0, .retAddr 0)], [], hp0, 599897, 7298671) (h2, some (.int 1)) := by
  obtain ⟨c, h2, r, hx, hm⟩ := pair_28 
  refine ⟨h2, ?_⟩
  refine Go_st rfl rfl ?_
  refine Go_call rfl hx (chkV rfl rfl rfl rfl rfl rfl) ?_
  refine Go_st rfl rfl ?_
  refine Go_call rfl hm (chkV rfl rfl rfl rfl rfl rfl) ?_
  refine Go_st rfl rfl ?_
  refine Go_ifT (decide_eq_true rfl) ?_
  exact law_tail xs h2
set_option maxRecDepth 20000 in
set_option maxHeartbeats 4000000 in
theorem law_29 (xs : Nat → Int32) : ∃ h2, pm_Go (pm_tr (lb_all 6 xs)) (pm_Rt pm_P 8) (953, [(3, .int 0), (2, .ref 77), (1, .ref 0), (0, .retAddr 0)], [], hp0, 599897, 7298671) (h2, some (.int 1)) := by
  obtain ⟨c, h2, r, hx, hm⟩ := pair_29 (xs 1)
  refine ⟨h2, ?_⟩
  refine Go_st rfl rfl ?_
  refine Go_st rfl rfl ?_
  refine Go_st rfl rfl ?_
  refine Go_st rfl rfl ?_
  refine Go_bin (v := 1) rfl (by decide +kernel) ?_
  refine Go_sld (j := 1) rfl (by decide +kernel) (by decide +kernel) ?_
  refine Go_call rfl hx (chkV rfl rfl rfl rfl rfl rfl) ?_
  refine Go_st rfl rfl ?_
  refine Go_st rfl rfl ?_
  refine Go_st rfl rfl ?_
  refine Go_st rfl rfl ?_
  refine Go_bin (v := 1) rfl (by decide +kernel) ?_
  refine Go_sld (j := 1) rfl (by decide +kernel) (by decide +kernel) ?_
  refine Go_call rfl hm (chkV rfl rfl rfl rfl rfl rfl) ?_
  refine Go_st rfl rfl ?_
  refine Go_ifT (decide_eq_true rfl) ?_
  exact law_tail xs h2
set_option maxRecDepth 20000 in
set_option maxHeartbeats 4000000 in
theorem law_30 (xs : Nat → Int32) : ∃ h2, pm_Go (pm_tr (lb_all 6 xs)) (pm_Rt pm_P 8) (976, [(3, .int 0), (2, .ref 77), (1, .ref 0), (0, .retAddr 0)], [], hp0, 599897, 7298671) (h2, some (.int 1)) := by
  obtain ⟨c, h2, r, hx, hm⟩ := pair_30 (xs 1)
  refine ⟨h2, ?_⟩
  refine Go_st rfl rfl ?_
  refine Go_st rfl rfl ?_
  refine Go_st rfl rfl ?_
  refine Go_st rfl rfl ?_
  refine Go_bin (v := 1) rfl (by decide +kernel) ?_
  refine Go_sld (j := 1) rfl (by decide +kernel) (by decide +kernel) ?_
  refine Go_call rfl hx (chkV rfl rfl rfl rfl rfl rfl) ?_
  refine Go_st rfl rfl ?_
  refine Go_st rfl rfl ?_
  refine Go_st rfl rfl ?_
  refine Go_st rfl rfl ?_
  refine Go_bin (v := 1) rfl (by decide +kernel) ?_
  refine Go_sld (j := 1) rfl (by decide +kernel) (by decide +kernel) ?_
  refine Go_call rfl hm (chkV rfl rfl rfl rfl rfl rfl) ?_
  refine Go_st rfl rfl ?_
  refine Go_ifT (decide_eq_true rfl) ?_
  exact law_tail xs h2
set_option maxRecDepth 20000 in
set_option maxHeartbeats 4000000 in
theorem law_31 (xs : Nat → Int32) : ∃ h2, pm_Go (pm_tr (lb_all 6 xs)) (pm_Rt pm_P 8) (999, [(3, .int 0), (2, .ref 77), (1, .ref 0), (0, .retAddr 0)], [], hp0, 599897, 7298671) (h2, some (.int 1)) := by
  obtain ⟨c, h2, r, hx, hm⟩ := pair_31 
  refine ⟨h2, ?_⟩
  refine Go_st rfl rfl ?_
  refine Go_call rfl hx (chkV rfl rfl rfl rfl rfl rfl) ?_
  refine Go_st rfl rfl ?_
  refine Go_call rfl hm (chkV rfl rfl rfl rfl rfl rfl) ?_
  refine Go_st rfl rfl ?_
  refine Go_ifT (decide_eq_true rfl) ?_
  exact law_tail xs h2
set_option maxRecDepth 20000 in
set_option maxHeartbeats 4000000 in
theorem law_32 (xs : Nat → Int32) : ∃ h2, pm_Go (pm_tr (lb_all 6 xs)) (pm_Rt pm_P 8) (1012, [(3, .int 0), (2, .ref 77), (1, .ref 0), (0, .retAddr 0)], [], hp0, 599897, 7298671) (h2, some (.int 1)) := by
  obtain ⟨c, h2, r, hx, hm⟩ := pair_32 (xs 1)
  refine ⟨h2, ?_⟩
  refine Go_st rfl rfl ?_
  refine Go_st rfl rfl ?_
  refine Go_st rfl rfl ?_
  refine Go_st rfl rfl ?_
  refine Go_bin (v := 1) rfl (by decide +kernel) ?_
  refine Go_sld (j := 1) rfl (by decide +kernel) (by decide +kernel) ?_
  refine Go_call rfl hx (chkV rfl rfl rfl rfl rfl rfl) ?_
  refine Go_st rfl rfl ?_
  refine Go_st rfl rfl ?_
  refine Go_st rfl rfl ?_
  refine Go_st rfl rfl ?_
  refine Go_bin (v := 1) rfl (by decide +kernel) ?_
  refine Go_sld (j := 1) rfl (by decide +kernel) (by decide +kernel) ?_
  refine Go_call rfl hm (chkV rfl rfl rfl rfl rfl rfl) ?_
  refine Go_st rfl rfl ?_
  refine Go_ifT (decide_eq_true rfl) ?_
  exact law_tail xs h2
set_option maxRecDepth 20000 in
set_option maxHeartbeats 4000000 in
theorem law_33 (xs : Nat → Int32) : ∃ h2, pm_Go (pm_tr (lb_all 6 xs)) (pm_Rt pm_P 8) (1035, [(3, .int 0), (2, .ref 77), (1, .ref 0), (0, .retAddr 0)], [], hp0, 599897, 7298671) (h2, some (.int 1)) := by
  obtain ⟨c, h2, r, hx, hm⟩ := pair_33 (xs 1) (xs 2)
  refine ⟨h2, ?_⟩
  refine Go_st rfl rfl ?_
  refine Go_st rfl rfl ?_
  refine Go_st rfl rfl ?_
  refine Go_st rfl rfl ?_
  refine Go_bin (v := 1) rfl (by decide +kernel) ?_
  refine Go_sld (j := 1) rfl (by decide +kernel) (by decide +kernel) ?_
  refine Go_st rfl rfl ?_
  refine Go_st rfl rfl ?_
  refine Go_st rfl rfl ?_
  refine Go_bin (v := 2) rfl (by decide +kernel) ?_
  refine Go_sld (j := 2) rfl (by decide +kernel) (by decide +kernel) ?_
  refine Go_call rfl hx (chkV rfl rfl rfl rfl rfl rfl) ?_
  refine Go_st rfl rfl ?_
  refine Go_st rfl rfl ?_
  refine Go_st rfl rfl ?_
  refine Go_st rfl rfl ?_
  refine Go_bin (v := 1) rfl (by decide +kernel) ?_
  refine Go_sld (j := 1) rfl (by decide +kernel) (by decide +kernel) ?_
  refine Go_st rfl rfl ?_
  refine Go_st rfl rfl ?_
  refine Go_st rfl rfl ?_
  refine Go_bin (v := 2) rfl (by decide +kernel) ?_
  refine Go_sld (j := 2) rfl (by decide +kernel) (by decide +kernel) ?_
  refine Go_call rfl hm (chkV rfl rfl rfl rfl rfl rfl) ?_
  refine Go_st rfl rfl ?_
  refine Go_ifT (decide_eq_true rfl) ?_
  exact law_tail xs h2
set_option maxRecDepth 20000 in
set_option maxHeartbeats 4000000 in
theorem law_34 (xs : Nat → Int32) : ∃ h2, pm_Go (pm_tr (lb_all 6 xs)) (pm_Rt pm_P 8) (1068, [(3, .int 0), (2, .ref 77), (1, .ref 0), (0, .retAddr 0)], [], hp0, 599897, 7298671) (h2, some (.int 1)) := by
  obtain ⟨c, h2, r, hx, hm⟩ := pair_34 (xs 1) (xs 2)
  refine ⟨h2, ?_⟩
  refine Go_st rfl rfl ?_
  refine Go_st rfl rfl ?_
  refine Go_st rfl rfl ?_
  refine Go_st rfl rfl ?_
  refine Go_bin (v := 1) rfl (by decide +kernel) ?_
  refine Go_sld (j := 1) rfl (by decide +kernel) (by decide +kernel) ?_
  refine Go_st rfl rfl ?_
  refine Go_st rfl rfl ?_
  refine Go_st rfl rfl ?_
  refine Go_bin (v := 2) rfl (by decide +kernel) ?_
  refine Go_sld (j := 2) rfl (by decide +kernel) (by decide +kernel) ?_
  refine Go_call rfl hx (chkV rfl rfl rfl rfl rfl rfl) ?_
  refine Go_st rfl rfl ?_
  refine Go_st rfl rfl ?_
  refine Go_st rfl rfl ?_
  refine Go_st rfl rfl ?_
  refine Go_bin (v := 1) rfl (by decide +kernel) ?_
  refine Go_sld (j := 1) rfl (by decide +kernel) (by decide +kernel) ?_
  refine Go_st rfl rfl ?_
  refine Go_st rfl rfl ?_
  refine Go_st rfl rfl ?_
  refine Go_bin (v := 2) rfl (by decide +kernel) ?_
  refine Go_sld (j := 2) rfl (by decide +kernel) (by decide +kernel) ?_
  refine Go_call rfl hm (chkV rfl rfl rfl rfl rfl rfl) ?_
  refine Go_st rfl rfl ?_
  refine Go_ifT (decide_eq_true rfl) ?_
  exact law_tail xs h2
set_option maxRecDepth 20000 in
set_option maxHeartbeats 4000000 in
theorem law_35 (xs : Nat → Int32) : ∃ h2, pm_Go (pm_tr (lb_all 6 xs)) (pm_Rt pm_P 8) (1101, [(3, .int 0), (2, .ref 77), (1, .ref 0), (0, .retAddr 0)], [], hp0, 599897, 7298671) (h2, some (.int 1)) := by
  obtain ⟨c, h2, r, hx, hm⟩ := pair_35 (xs 1) (xs 2)
  refine ⟨h2, ?_⟩
  refine Go_st rfl rfl ?_
  refine Go_st rfl rfl ?_
  refine Go_st rfl rfl ?_
  refine Go_st rfl rfl ?_
  refine Go_bin (v := 1) rfl (by decide +kernel) ?_
  refine Go_sld (j := 1) rfl (by decide +kernel) (by decide +kernel) ?_
  refine Go_st rfl rfl ?_
  refine Go_st rfl rfl ?_
  refine Go_st rfl rfl ?_
  refine Go_bin (v := 2) rfl (by decide +kernel) ?_
  refine Go_sld (j := 2) rfl (by decide +kernel) (by decide +kernel) ?_
  refine Go_call rfl hx (chkV rfl rfl rfl rfl rfl rfl) ?_
  refine Go_st rfl rfl ?_
  refine Go_st rfl rfl ?_
  refine Go_st rfl rfl ?_
  refine Go_st rfl rfl ?_
  refine Go_bin (v := 1) rfl (by decide +kernel) ?_
  refine Go_sld (j := 1) rfl (by decide +kernel) (by decide +kernel) ?_
  refine Go_st rfl rfl ?_
  refine Go_st rfl rfl ?_
  refine Go_st rfl rfl ?_
  refine Go_bin (v := 2) rfl (by decide +kernel) ?_
  refine Go_sld (j := 2) rfl (by decide +kernel) (by decide +kernel) ?_
  refine Go_call rfl hm (chkV rfl rfl rfl rfl rfl rfl) ?_
  refine Go_st rfl rfl ?_
  refine Go_ifT (decide_eq_true rfl) ?_
  exact law_tail xs h2
set_option maxRecDepth 20000 in
set_option maxHeartbeats 4000000 in
theorem law_36 (xs : Nat → Int32) : ∃ h2, pm_Go (pm_tr (lb_all 6 xs)) (pm_Rt pm_P 8) (1134, [(3, .int 0), (2, .ref 77), (1, .ref 0), (0, .retAddr 0)], [], hp0, 599897, 7298671) (h2, some (.int 1)) := by
  obtain ⟨c, h2, r, hx, hm⟩ := pair_36 (xs 1)
  refine ⟨h2, ?_⟩
  refine Go_st rfl rfl ?_
  refine Go_st rfl rfl ?_
  refine Go_st rfl rfl ?_
  refine Go_st rfl rfl ?_
  refine Go_bin (v := 1) rfl (by decide +kernel) ?_
  refine Go_sld (j := 1) rfl (by decide +kernel) (by decide +kernel) ?_
  refine Go_call rfl hx (chkV rfl rfl rfl rfl rfl rfl) ?_
  refine Go_st rfl rfl ?_
  refine Go_st rfl rfl ?_
  refine Go_st rfl rfl ?_
  refine Go_st rfl rfl ?_
  refine Go_bin (v := 1) rfl (by decide +kernel) ?_
  refine Go_sld (j := 1) rfl (by decide +kernel) (by decide +kernel) ?_
  refine Go_call rfl hm (chkV rfl rfl rfl rfl rfl rfl) ?_
  refine Go_st rfl rfl ?_
  refine Go_ifT (decide_eq_true rfl) ?_
  exact law_tail xs h2
set_option maxRecDepth 20000 in
set_option maxHeartbeats 4000000 in
theorem law_37 (xs : Nat → Int32) : ∃ h2, pm_Go (pm_tr (lb_all 6 xs)) (pm_Rt pm_P 8) (1157, [(3, .int 0), (2, .ref 77), (1, .ref 0), (0, .retAddr 0)], [], hp0, 599897, 7298671) (h2, some (.int 1)) := by
  obtain ⟨c, h2, r, hx, hm⟩ := pair_37 (xs 1)
  refine ⟨h2, ?_⟩
  refine Go_st rfl rfl ?_
  refine Go_st rfl rfl ?_
  refine Go_st rfl rfl ?_
  refine Go_st rfl rfl ?_
  refine Go_bin (v := 1) rfl (by decide +kernel) ?_
  refine Go_sld (j := 1) rfl (by decide +kernel) (by decide +kernel) ?_
  refine Go_call rfl hx (chkV rfl rfl rfl rfl rfl rfl) ?_
  refine Go_st rfl rfl ?_
  refine Go_st rfl rfl ?_
  refine Go_st rfl rfl ?_
  refine Go_st rfl rfl ?_
  refine Go_bin (v := 1) rfl (by decide +kernel) ?_
  refine Go_sld (j := 1) rfl (by decide +kernel) (by decide +kernel) ?_
  refine Go_call rfl hm (chkV rfl rfl rfl rfl rfl rfl) ?_
  refine Go_st rfl rfl ?_
  refine Go_ifT (decide_eq_true rfl) ?_
  exact law_tail xs h2
set_option maxRecDepth 20000 in
set_option maxHeartbeats 4000000 in
theorem law_38 (xs : Nat → Int32) : ∃ h2, pm_Go (pm_tr (lb_all 6 xs)) (pm_Rt pm_P 8) (1180, [(3, .int 0), (2, .ref 77), (1, .ref 0), (0, .retAddr 0)], [], hp0, 599897, 7298671) (h2, some (.int 1)) := by
  obtain ⟨c, h2, r, hx, hm⟩ := pair_38 (xs 1) (xs 2)
  refine ⟨h2, ?_⟩
  refine Go_st rfl rfl ?_
  refine Go_st rfl rfl ?_
  refine Go_st rfl rfl ?_
  refine Go_st rfl rfl ?_
  refine Go_bin (v := 1) rfl (by decide +kernel) ?_
  refine Go_sld (j := 1) rfl (by decide +kernel) (by decide +kernel) ?_
  refine Go_st rfl rfl ?_
  refine Go_st rfl rfl ?_
  refine Go_st rfl rfl ?_
  refine Go_bin (v := 2) rfl (by decide +kernel) ?_
  refine Go_sld (j := 2) rfl (by decide +kernel) (by decide +kernel) ?_
  refine Go_call rfl hx (chkV rfl rfl rfl rfl rfl rfl) ?_
  refine Go_st rfl rfl ?_
  refine Go_st rfl rfl ?_
  refine Go_st rfl rfl ?_
  refine Go_st rfl rfl ?_
  refine Go_bin (v := 1) rfl (by decide +kernel) ?_
  refine Go_sld (j := 1) rfl (by decide +kernel) (by decide +kernel) ?_
  refine Go_st rfl rfl ?_
  refine Go_st rfl rfl ?_
  refine Go_st rfl rfl ?_
  refine Go_bin (v := 2) rfl (by decide +kernel) ?_
  refine Go_sld (j := 2) rfl (by decide +kernel) (by decide +kernel) ?_
  refine Go_call rfl hm (chkV rfl rfl rfl rfl rfl rfl) ?_
  refine Go_st rfl rfl ?_
  refine Go_ifT (decide_eq_true rfl) ?_
  exact law_tail xs h2
set_option maxRecDepth 20000 in
set_option maxHeartbeats 4000000 in
theorem law_39 (xs : Nat → Int32) : ∃ h2, pm_Go (pm_tr (lb_all 6 xs)) (pm_Rt pm_P 8) (1213, [(3, .int 0), (2, .ref 77), (1, .ref 0), (0, .retAddr 0)], [], hp0, 599897, 7298671) (h2, some (.int 1)) := by
  obtain ⟨c, h2, r, hx, hm⟩ := pair_39 (xs 1) (xs 2)
  refine ⟨h2, ?_⟩
  refine Go_st rfl rfl ?_
  refine Go_st rfl rfl ?_
  refine Go_st rfl rfl ?_
  refine Go_st rfl rfl ?_
  refine Go_bin (v := 1) rfl (by decide +kernel) ?_
  refine Go_sld (j := 1) rfl (by decide +kernel) (by decide +kernel) ?_
  refine Go_st rfl rfl ?_
  refine Go_st rfl rfl ?_
  refine Go_st rfl rfl ?_
  refine Go_bin (v := 2) rfl (by decide +kernel) ?_
  refine Go_sld (j := 2) rfl (by decide +kernel) (by decide +kernel) ?_
  refine Go_call rfl hx (chkV rfl rfl rfl rfl rfl rfl) ?_
  refine Go_st rfl rfl ?_
  refine Go_st rfl rfl ?_
  refine Go_st rfl rfl ?_
  refine Go_st rfl rfl ?_
  refine Go_bin (v := 1) rfl (by decide +kernel) ?_
  refine Go_sld (j := 1) rfl (by decide +kernel) (by decide +kernel) ?_
  refine Go_st rfl rfl ?_
  refine Go_st rfl rfl ?_
  refine Go_st rfl rfl ?_
  refine Go_bin (v := 2) rfl (by decide +kernel) ?_
  refine Go_sld (j := 2) rfl (by decide +kernel) (by decide +kernel) ?_
  refine Go_call rfl hm (chkV rfl rfl rfl rfl rfl rfl) ?_
  refine Go_st rfl rfl ?_
  refine Go_ifT (decide_eq_true rfl) ?_
  exact law_tail xs h2
set_option maxRecDepth 20000 in
set_option maxHeartbeats 4000000 in
theorem law_40 (xs : Nat → Int32) : ∃ h2, pm_Go (pm_tr (lb_all 6 xs)) (pm_Rt pm_P 8) (1246, [(3, .int 0), (2, .ref 77), (1, .ref 0), (0, .retAddr 0)], [], hp0, 599897, 7298671) (h2, some (.int 1)) := by
  obtain ⟨c, h2, r, hx, hm⟩ := pair_40 (xs 1) (xs 2)
  refine ⟨h2, ?_⟩
  refine Go_st rfl rfl ?_
  refine Go_st rfl rfl ?_
  refine Go_st rfl rfl ?_
  refine Go_st rfl rfl ?_
  refine Go_bin (v := 1) rfl (by decide +kernel) ?_
  refine Go_sld (j := 1) rfl (by decide +kernel) (by decide +kernel) ?_
  refine Go_st rfl rfl ?_
  refine Go_st rfl rfl ?_
  refine Go_st rfl rfl ?_
  refine Go_bin (v := 2) rfl (by decide +kernel) ?_
  refine Go_sld (j := 2) rfl (by decide +kernel) (by decide +kernel) ?_
  refine Go_call rfl hx (chkV rfl rfl rfl rfl rfl rfl) ?_
  refine Go_st rfl rfl ?_
  refine Go_st rfl rfl ?_
  refine Go_st rfl rfl ?_
  refine Go_st rfl rfl ?_
  refine Go_bin (v := 1) rfl (by decide +kernel) ?_
  refine Go_sld (j := 1) rfl (by decide +kernel) (by decide +kernel) ?_
  refine Go_st rfl rfl ?_
  refine Go_st rfl rfl ?_
  refine Go_st rfl rfl ?_
  refine Go_bin (v := 2) rfl (by decide +kernel) ?_
  refine Go_sld (j := 2) rfl (by decide +kernel) (by decide +kernel) ?_
  refine Go_call rfl hm (chkV rfl rfl rfl rfl rfl rfl) ?_
  refine Go_st rfl rfl ?_
  refine Go_ifT (decide_eq_true rfl) ?_
  exact law_tail xs h2
set_option maxRecDepth 20000 in
set_option maxHeartbeats 4000000 in
theorem law_41 (xs : Nat → Int32) : ∃ h2, pm_Go (pm_tr (lb_all 6 xs)) (pm_Rt pm_P 8) (1279, [(3, .int 0), (2, .ref 77), (1, .ref 0), (0, .retAddr 0)], [], hp0, 599897, 7298671) (h2, some (.int 1)) := by
  obtain ⟨c, h2, r, hx, hm⟩ := pair_41 (xs 1)
  refine ⟨h2, ?_⟩
  refine Go_st rfl rfl ?_
  refine Go_st rfl rfl ?_
  refine Go_st rfl rfl ?_
  refine Go_st rfl rfl ?_
  refine Go_bin (v := 1) rfl (by decide +kernel) ?_
  refine Go_sld (j := 1) rfl (by decide +kernel) (by decide +kernel) ?_
  refine Go_call rfl hx (chkV rfl rfl rfl rfl rfl rfl) ?_
  refine Go_st rfl rfl ?_
  refine Go_st rfl rfl ?_
  refine Go_st rfl rfl ?_
  refine Go_st rfl rfl ?_
  refine Go_bin (v := 1) rfl (by decide +kernel) ?_
  refine Go_sld (j := 1) rfl (by decide +kernel) (by decide +kernel) ?_
  refine Go_call rfl hm (chkV rfl rfl rfl rfl rfl rfl) ?_
  refine Go_st rfl rfl ?_
  refine Go_ifT (decide_eq_true rfl) ?_
  exact law_tail xs h2
set_option maxRecDepth 20000 in
set_option maxHeartbeats 4000000 in
theorem law_42 (xs : Nat → Int32) : ∃ h2, pm_Go (pm_tr (lb_all 6 xs)) (pm_Rt pm_P 8) (1302, [(3, .int 0), (2, .ref 77), (1, .ref 0), (0, .retAddr 0)], [], hp0, 599897, 7298671) (h2, some (.int 1)) := by
  obtain ⟨c, h2, r, hx, hm⟩ := pair_42 (xs 1)
  refine ⟨h2, ?_⟩
  refine Go_st rfl rfl ?_
  refine Go_st rfl rfl ?_
  refine Go_st rfl rfl ?_
  refine Go_st rfl rfl ?_
  refine Go_bin (v := 1) rfl (by decide +kernel) ?_
  refine Go_sld (j := 1) rfl (by decide +kernel) (by decide +kernel) ?_
  refine Go_call rfl hx (chkV rfl rfl rfl rfl rfl rfl) ?_
  refine Go_st rfl rfl ?_
  refine Go_st rfl rfl ?_
  refine Go_st rfl rfl ?_
  refine Go_st rfl rfl ?_
  refine Go_bin (v := 1) rfl (by decide +kernel) ?_
  refine Go_sld (j := 1) rfl (by decide +kernel) (by decide +kernel) ?_
  refine Go_call rfl hm (chkV rfl rfl rfl rfl rfl rfl) ?_
  refine Go_st rfl rfl ?_
  refine Go_ifT (decide_eq_true rfl) ?_
  exact law_tail xs h2
set_option maxRecDepth 20000 in
set_option maxHeartbeats 4000000 in
theorem law_43 (xs : Nat → Int32) : ∃ h2, pm_Go (pm_tr (lb_all 6 xs)) (pm_Rt pm_P 8) (1325, [(3, .int 0), (2, .ref 77), (1, .ref 0), (0, .retAddr 0)], [], hp0, 599897, 7298671) (h2, some (.int 1)) := by
  obtain ⟨c, h2, r, hx, hm⟩ := pair_43 
  refine ⟨h2, ?_⟩
  refine Go_st rfl rfl ?_
  refine Go_call rfl hx (chkV rfl rfl rfl rfl rfl rfl) ?_
  refine Go_st rfl rfl ?_
  refine Go_call rfl hm (chkV rfl rfl rfl rfl rfl rfl) ?_
  refine Go_st rfl rfl ?_
  refine Go_ifT (decide_eq_true rfl) ?_
  exact law_tail xs h2
set_option maxRecDepth 20000 in
set_option maxHeartbeats 4000000 in
theorem law_44 (xs : Nat → Int32) : ∃ h2, pm_Go (pm_tr (lb_all 6 xs)) (pm_Rt pm_P 8) (1338, [(3, .int 0), (2, .ref 77), (1, .ref 0), (0, .retAddr 0)], [], hp0, 599897, 7298671) (h2, some (.int 1)) := by
  obtain ⟨c, h2, r, hx, hm⟩ := pair_44 (xs 1)
  refine ⟨h2, ?_⟩
  refine Go_st rfl rfl ?_
  refine Go_st rfl rfl ?_
  refine Go_st rfl rfl ?_
  refine Go_st rfl rfl ?_
  refine Go_bin (v := 1) rfl (by decide +kernel) ?_
  refine Go_sld (j := 1) rfl (by decide +kernel) (by decide +kernel) ?_
  refine Go_call rfl hx (chkV rfl rfl rfl rfl rfl rfl) ?_
  refine Go_st rfl rfl ?_
  refine Go_st rfl rfl ?_
  refine Go_st rfl rfl ?_
  refine Go_st rfl rfl ?_
  refine Go_bin (v := 1) rfl (by decide +kernel) ?_
  refine Go_sld (j := 1) rfl (by decide +kernel) (by decide +kernel) ?_
  refine Go_call rfl hm (chkV rfl rfl rfl rfl rfl rfl) ?_
  refine Go_st rfl rfl ?_
  refine Go_ifT (decide_eq_true rfl) ?_
  exact law_tail xs h2
set_option maxRecDepth 20000 in
set_option maxHeartbeats 4000000 in
theorem law_45 (xs : Nat → Int32) : ∃ h2, pm_Go (pm_tr (lb_all 6 xs)) (pm_Rt pm_P 8) (1361, [(3, .int 0), (2, .ref 77), (1, .ref 0), (0, .retAddr 0)], [], hp0, 599897, 7298671) (h2, some (.int 1)) := by
  obtain ⟨c, h2, r, hx, hm⟩ := pair_45 
  refine ⟨h2, ?_⟩
  refine Go_st rfl rfl ?_
  refine Go_call rfl hx (chkV rfl rfl rfl rfl rfl rfl) ?_
  refine Go_st rfl rfl ?_
  refine Go_call rfl hm (chkV rfl rfl rfl rfl rfl rfl) ?_
  refine Go_st rfl rfl ?_
  refine Go_ifT (decide_eq_true rfl) ?_
  exact law_tail xs h2
set_option maxRecDepth 20000 in
set_option maxHeartbeats 4000000 in
theorem law_46 (xs : Nat → Int32) : ∃ h2, pm_Go (pm_tr (lb_all 6 xs)) (pm_Rt pm_P 8) (1374, [(3, .int 0), (2, .ref 77), (1, .ref 0), (0, .retAddr 0)], [], hp0, 599897, 7298671) (h2, some (.int 1)) := by
  obtain ⟨c, h2, r, hx, hm⟩ := pair_46 (xs 1) (xs 2)
  refine ⟨h2, ?_⟩
  refine Go_st rfl rfl ?_
  refine Go_st rfl rfl ?_
  refine Go_st rfl rfl ?_
  refine Go_st rfl rfl ?_
  refine Go_bin (v := 1) rfl (by decide +kernel) ?_
  refine Go_sld (j := 1) rfl (by decide +kernel) (by decide +kernel) ?_
  refine Go_st rfl rfl ?_
  refine Go_st rfl rfl ?_
  refine Go_st rfl rfl ?_
  refine Go_bin (v := 2) rfl (by decide +kernel) ?_
  refine Go_sld (j := 2) rfl (by decide +kernel) (by decide +kernel) ?_
  refine Go_call rfl hx (chkV rfl rfl rfl rfl rfl rfl) ?_
  refine Go_st rfl rfl ?_
  refine Go_st rfl rfl ?_
  refine Go_st rfl rfl ?_
  refine Go_st rfl rfl ?_
  refine Go_bin (v := 1) rfl (by decide +kernel) ?_
  refine Go_sld (j := 1) rfl (by decide +kernel) (by decide +kernel) ?_
  refine Go_st rfl rfl ?_
  refine Go_st rfl rfl ?_
  refine Go_st rfl rfl ?_
  refine Go_bin (v := 2) rfl (by decide +kernel) ?_
  refine Go_sld (j := 2) rfl (by decide +kernel) (by decide +kernel) ?_
  refine Go_call rfl hm (chkV rfl rfl rfl rfl rfl rfl) ?_
  refine Go_st rfl rfl ?_
  refine Go_ifT (decide_eq_true rfl) ?_
  exact law_tail xs h2
set_option maxRecDepth 20000 in
set_option maxHeartbeats 4000000 in
theorem law_47 (xs : Nat → Int32) : ∃ h2, pm_Go (pm_tr (lb_all 6 xs)) (pm_Rt pm_P 8) (1407, [(3, .int 0), (2, .ref 77), (1, .ref 0), (0, .retAddr 0)], [], hp0, 599897, 7298671) (h2, some (.int 1)) := by
  obtain ⟨c, h2, r, hx, hm⟩ := pair_47 (xs 1) (xs 2)
  refine ⟨h2, ?_⟩
  refine Go_st rfl rfl ?_
  refine Go_st rfl rfl ?_
  refine Go_st rfl rfl ?_
  refine Go_st rfl rfl ?_
  refine Go_bin (v := 1) rfl (by decide +kernel) ?_
  refine Go_sld (j := 1) rfl (by decide +kernel) (by decide +kernel) ?_
  refine Go_st rfl rfl ?_
  refine Go_st rfl rfl ?_
  refine Go_st rfl rfl ?_
  refine Go_bin (v := 2) rfl (by decide +kernel) ?_
  refine Go_sld (j := 2) rfl (by decide +kernel) (by decide +kernel) ?_
  refine Go_call rfl hx (chkV rfl rfl rfl rfl rfl rfl) ?_
  refine Go_st rfl rfl ?_
  refine Go_st rfl rfl ?_
  refine Go_st rfl rfl ?_
  refine Go_st rfl rfl ?_
  refine Go_bin (v := 1) rfl (by decide +kernel) ?_
  refine Go_sld (j := 1) rfl (by decide +kernel) (by decide +kernel) ?_
  refine Go_st rfl rfl ?_
  refine Go_st rfl rfl ?_
  refine Go_st rfl rfl ?_
  refine Go_bin (v := 2) rfl (by decide +kernel) ?_
  refine Go_sld (j := 2) rfl (by decide +kernel) (by decide +kernel) ?_
  refine Go_call rfl hm (chkV rfl rfl rfl rfl rfl rfl) ?_
  refine Go_st rfl rfl ?_
  refine Go_ifT (decide_eq_true rfl) ?_
  exact law_tail xs h2
set_option maxRecDepth 20000 in
set_option maxHeartbeats 4000000 in
theorem law_48 (xs : Nat → Int32) : ∃ h2, pm_Go (pm_tr (lb_all 6 xs)) (pm_Rt pm_P 8) (1440, [(3, .int 0), (2, .ref 77), (1, .ref 0), (0, .retAddr 0)], [], hp0, 599897, 7298671) (h2, some (.int 1)) := by
  obtain ⟨c, h2, r, hx, hm⟩ := pair_48 
  refine ⟨h2, ?_⟩
  refine Go_st rfl rfl ?_
  refine Go_call rfl hx (chkV rfl rfl rfl rfl rfl rfl) ?_
  refine Go_st rfl rfl ?_
  refine Go_call rfl hm (chkV rfl rfl rfl rfl rfl rfl) ?_
  refine Go_st rfl rfl ?_
  refine Go_ifT (decide_eq_true rfl) ?_
  exact law_tail xs h2
set_option maxRecDepth 20000 in
set_option maxHeartbeats 4000000 in
theorem law_49 (xs : Nat → Int32) : ∃ h2, pm_Go (pm_tr (lb_all 6 xs)) (pm_Rt pm_P 8) (1453, [(3, .int 0), (2, .ref 77), (1, .ref 0), (0, .retAddr 0)], [], hp0, 599897, 7298671) (h2, some (.int 1)) := by
  obtain ⟨c, h2, r, hx, hm⟩ := pair_49 (xs 1)
  refine ⟨h2, ?_⟩
  refine Go_st rfl rfl ?_
  refine Go_st rfl rfl ?_
  refine Go_st rfl rfl ?_
  refine Go_st rfl rfl ?_
  refine Go_bin (v := 1) rfl (by decide +kernel) ?_
  refine Go_sld (j := 1) rfl (by decide +kernel) (by decide +kernel) ?_
  refine Go_call rfl hx (chkV rfl rfl rfl rfl rfl rfl) ?_
  refine Go_st rfl rfl ?_
  refine Go_st rfl rfl ?_
  refine Go_st rfl rfl ?_
  refine Go_st rfl rfl ?_
  refine Go_bin (v := 1) rfl (by decide +kernel) ?_
  refine Go_sld (j := 1) rfl (by decide +kernel) (by decide +kernel) ?_
  refine Go_call rfl hm (chkV rfl rfl rfl rfl rfl rfl) ?_
  refine Go_st rfl rfl ?_
  refine Go_ifT (decide_eq_true rfl) ?_
  exact law_tail xs h2
set_option maxRecDepth 20000 in
set_option maxHeartbeats 4000000 in
theorem law_50 (xs : Nat → Int32) : ∃ h2, pm_Go (pm_tr (lb_all 6 xs)) (pm_Rt pm_P 8) (1476, [(3, .int 0), (2, .ref 77), (1, .ref 0), (0, .retAddr 0)], [], hp0, 599897, 7298671) (h2, some (.int 1)) := by
  obtain ⟨c, h2, r, hx, hm⟩ := pair_50 (xs 1) (xs 2)
  refine ⟨h2, ?_⟩
  refine Go_st rfl rfl ?_
  refine Go_st rfl rfl ?_
  refine Go_st rfl rfl ?_
  refine Go_st rfl rfl ?_
  refine Go_bin (v := 1) rfl (by decide +kernel) ?_
  refine Go_sld (j := 1) rfl (by decide +kernel) (by decide +kernel) ?_
  refine Go_st rfl rfl ?_
  refine Go_st rfl rfl ?_
  refine Go_st rfl rfl ?_
  refine Go_bin (v := 2) rfl (by decide +kernel) ?_
  refine Go_sld (j := 2) rfl (by decide +kernel) (by decide +kernel) ?_
  refine Go_call rfl hx (chkV rfl rfl rfl rfl rfl rfl) ?_
  refine Go_st rfl rfl ?_
  refine Go_st rfl rfl ?_
  refine Go_st rfl rfl ?_
  refine Go_st rfl rfl ?_
  refine Go_bin (v := 1) rfl (by decide +kernel) ?_
  refine Go_sld (j := 1) rfl (by decide +kernel) (by decide +kernel) ?_
  refine Go_st rfl rfl ?_
  refine Go_st rfl rfl ?_
  refine Go_st rfl rfl ?_
  refine Go_bin (v := 2) rfl (by decide +kernel) ?_
  refine Go_sld (j := 2) rfl (by decide +kernel) (by decide +kernel) ?_
  refine Go_call rfl hm (chkV rfl rfl rfl rfl rfl rfl) ?_
  refine Go_st rfl rfl ?_
  refine Go_ifT (decide_eq_true rfl) ?_
  exact law_tail xs h2
set_option maxRecDepth 20000 in
set_option maxHeartbeats 4000000 in
theorem law_51 (xs : Nat → Int32) : ∃ h2, pm_Go (pm_tr (lb_all 6 xs)) (pm_Rt pm_P 8) (1509, [(3, .int 0), (2, .ref 77), (1, .ref 0), (0, .retAddr 0)], [], hp0, 599897, 7298671) (h2, some (.int 1)) := by
  obtain ⟨c, h2, r, hx, hm⟩ := pair_51 
  refine ⟨h2, ?_⟩
  refine Go_st rfl rfl ?_
  refine Go_call rfl hx (chkV rfl rfl rfl rfl rfl rfl) ?_
  refine Go_st rfl rfl ?_
  refine Go_call rfl hm (chkV rfl rfl rfl rfl rfl rfl) ?_
  refine Go_st rfl rfl ?_
  refine Go_ifT (decide_eq_true rfl) ?_
  exact law_tail xs h2
set_option maxRecDepth 20000 in
set_option maxHeartbeats 4000000 in
theorem law_52 (xs : Nat → Int32) : ∃ h2, pm_Go (pm_tr (lb_all 6 xs)) (pm_Rt pm_P 8) (1522, [(3, .int 0), (2, .ref 77), (1, .ref 0), (0, .retAddr 0)], [], hp0, 599897, 7298671) (h2, some (.int 1)) := by
  obtain ⟨c, h2, r, hx, hm⟩ := pair_52 
  refine ⟨h2, ?_⟩
  refine Go_st rfl rfl ?_
  refine Go_call rfl hx (chkV rfl rfl rfl rfl rfl rfl) ?_
  refine Go_st rfl rfl ?_
  refine Go_call rfl hm (chkV rfl rfl rfl rfl rfl rfl) ?_
  refine Go_st rfl rfl ?_
  refine Go_ifT (decide_eq_true rfl) ?_
  exact law_tail xs h2
set_option maxRecDepth 20000 in
set_option maxHeartbeats 4000000 in
theorem law_53 (xs : Nat → Int32) : ∃ h2, pm_Go (pm_tr (lb_all 6 xs)) (pm_Rt pm_P 8) (1535, [(3, .int 0), (2, .ref 77), (1, .ref 0), (0, .retAddr 0)], [], hp0, 599897, 7298671) (h2, some (.int 1)) := by
  obtain ⟨c, h2, r, hx, hm⟩ := pair_53 
  refine ⟨h2, ?_⟩
  refine Go_st rfl rfl ?_
  refine Go_call rfl hx (chkV rfl rfl rfl rfl rfl rfl) ?_
  refine Go_st rfl rfl ?_
  refine Go_call rfl hm (chkV rfl rfl rfl rfl rfl rfl) ?_
  refine Go_st rfl rfl ?_
  refine Go_ifT (decide_eq_true rfl) ?_
  exact law_tail xs h2
set_option maxRecDepth 20000 in
set_option maxHeartbeats 4000000 in
theorem law_54 (xs : Nat → Int32) : ∃ h2, pm_Go (pm_tr (lb_all 6 xs)) (pm_Rt pm_P 8) (1548, [(3, .int 0), (2, .ref 77), (1, .ref 0), (0, .retAddr 0)], [], hp0, 599897, 7298671) (h2, some (.int 1)) := by
  obtain ⟨c, h2, r, hx, hm⟩ := pair_54 
  refine ⟨h2, ?_⟩
  refine Go_st rfl rfl ?_
  refine Go_call rfl hx (chkV rfl rfl rfl rfl rfl rfl) ?_
  refine Go_st rfl rfl ?_
  refine Go_call rfl hm (chkV rfl rfl rfl rfl rfl rfl) ?_
  refine Go_st rfl rfl ?_
  refine Go_ifT (decide_eq_true rfl) ?_
  exact law_tail xs h2
set_option maxRecDepth 20000 in
set_option maxHeartbeats 4000000 in
theorem law_55 (xs : Nat → Int32) : ∃ h2, pm_Go (pm_tr (lb_all 6 xs)) (pm_Rt pm_P 8) (1561, [(3, .int 0), (2, .ref 77), (1, .ref 0), (0, .retAddr 0)], [], hp0, 599897, 7298671) (h2, some (.int 1)) := by
  obtain ⟨c, h2, r, hx, hm⟩ := pair_55 
  refine ⟨h2, ?_⟩
  refine Go_st rfl rfl ?_
  refine Go_call rfl hx (chkV rfl rfl rfl rfl rfl rfl) ?_
  refine Go_st rfl rfl ?_
  refine Go_call rfl hm (chkV rfl rfl rfl rfl rfl rfl) ?_
  refine Go_st rfl rfl ?_
  refine Go_ifT (decide_eq_true rfl) ?_
  exact law_tail xs h2
set_option maxRecDepth 20000 in
set_option maxHeartbeats 4000000 in
theorem law_56 (xs : Nat → Int32) : ∃ h2, pm_Go (pm_tr (lb_all 6 xs)) (pm_Rt pm_P 8) (1574, [(3, .int 0), (2, .ref 77), (1, .ref 0), (0, .retAddr 0)], [], hp0, 599897, 7298671) (h2, some (.int 1)) := by
  obtain ⟨c, h2, r, hx, hm⟩ := pair_56 
  refine ⟨h2, ?_⟩
  refine Go_st rfl rfl ?_
  refine Go_call rfl hx (chkV rfl rfl rfl rfl rfl rfl) ?_
  refine Go_st rfl rfl ?_
  refine Go_call rfl hm (chkV rfl rfl rfl rfl rfl rfl) ?_
  refine Go_st rfl rfl ?_
  refine Go_ifT (decide_eq_true rfl) ?_
  exact law_tail xs h2
set_option maxRecDepth 20000 in
set_option maxHeartbeats 4000000 in
theorem law_57 (xs : Nat → Int32) : ∃ h2, pm_Go (pm_tr (lb_all 6 xs)) (pm_Rt pm_P 8) (1587, [(3, .int 0), (2, .ref 77), (1, .ref 0), (0, .retAddr 0)], [], hp0, 599897, 7298671) (h2, some (.int 1)) := by
  obtain ⟨c, h2, r, hx, hm⟩ := pair_57 (xs 1) (xs 2)
  refine ⟨h2, ?_⟩
  refine Go_st rfl rfl ?_
  refine Go_st rfl rfl ?_
  refine Go_st rfl rfl ?_
  refine Go_st rfl rfl ?_
  refine Go_bin (v := 1) rfl (by decide +kernel) ?_
  refine Go_sld (j := 1) rfl (by decide +kernel) (by decide +kernel) ?_
  refine Go_st rfl rfl ?_
  refine Go_st rfl rfl ?_
  refine Go_st rfl rfl ?_
  refine Go_bin (v := 2) rfl (by decide +kernel) ?_
  refine Go_sld (j := 2) rfl (by decide +kernel) (by decide +kernel) ?_
  refine Go_call rfl hx (chkV rfl rfl rfl rfl rfl rfl) ?_
  refine Go_st rfl rfl ?_
  refine Go_st rfl rfl ?_
  refine Go_st rfl rfl ?_
  refine Go_st rfl rfl ?_
  refine Go_bin (v := 1) rfl (by decide +kernel) ?_
  refine Go_sld (j := 1) rfl (by decide +kernel) (by decide +kernel) ?_
  refine Go_st rfl rfl ?_
  refine Go_st rfl rfl ?_
  refine Go_st rfl rfl ?_
  refine Go_bin (v := 2) rfl (by decide +kernel) ?_
  refine Go_sld (j := 2) rfl (by decide +kernel) (by decide +kernel) ?_
  refine Go_call rfl hm (chkV rfl rfl rfl rfl rfl rfl) ?_
  refine Go_st rfl rfl ?_
  refine Go_ifT (decide_eq_true rfl) ?_
  exact law_tail xs h2
set_option maxRecDepth 20000 in
set_option maxHeartbeats 4000000 in
theorem law_58 (xs : Nat → Int32) : ∃ h2, pm_Go (pm_tr (lb_all 6 xs)) (pm_Rt pm_P 8) (1620, [(3, .int 0), (2, .ref 77), (1, .ref 0), (0, .retAddr 0)], [], hp0, 599897, 7298671) (h2, some (.int 1)) := by
  obtain ⟨c, h2, r, hx, hm⟩ := pair_58 (xs 1) (xs 2)
  refine ⟨h2, ?_⟩
  refine Go_st rfl rfl ?_
  refine Go_st rfl rfl ?_
  refine Go_st rfl rfl ?_
  refine Go_st rfl rfl ?_
  refine Go_bin (v := 1) rfl (by decide +kernel) ?_
  refine Go_sld (j := 1) rfl (by decide +kernel) (by decide +kernel) ?_
  refine Go_st rfl rfl ?_
  refine Go_st rfl rfl ?_
  refine Go_st rfl rfl ?_
  refine Go_bin (v := 2) rfl (by decide +kernel) ?_
  refine Go_sld (j := 2) rfl (by decide +kernel) (by decide +kernel) ?_
  refine Go_call rfl hx (chkV rfl rfl rfl rfl rfl rfl) ?_
  refine Go_st rfl rfl ?_
  refine Go_st rfl rfl ?_
  refine Go_st rfl rfl ?_
  refine Go_st rfl rfl ?_
  refine Go_bin (v := 1) rfl (by decide +kernel) ?_
  refine Go_sld (j := 1) rfl (by decide +kernel) (by decide +kernel) ?_
  refine Go_st rfl rfl ?_
  refine Go_st rfl rfl ?_
  refine Go_st rfl rfl ?_
  refine Go_bin (v := 2) rfl (by decide +kernel) ?_
  refine Go_sld (j := 2) rfl (by decide +kernel) (by decide +kernel) ?_
  refine Go_call rfl hm (chkV rfl rfl rfl rfl rfl rfl) ?_
  refine Go_st rfl rfl ?_
  refine Go_ifT (decide_eq_true rfl) ?_
  exact law_tail xs h2
set_option maxRecDepth 20000 in
set_option maxHeartbeats 4000000 in
theorem law_59 (xs : Nat → Int32) : ∃ h2, pm_Go (pm_tr (lb_all 6 xs)) (pm_Rt pm_P 8) (1653, [(3, .int 0), (2, .ref 77), (1, .ref 0), (0, .retAddr 0)], [], hp0, 599897, 7298671) (h2, some (.int 1)) := by
  obtain ⟨c, h2, r, hx, hm⟩ := pair_59 (xs 1) (xs 2)
  refine ⟨h2, ?_⟩
  refine Go_st rfl rfl ?_
  refine Go_st rfl rfl ?_
  refine Go_st rfl rfl ?_
  refine Go_st rfl rfl ?_
  refine Go_bin (v := 1) rfl (by decide +kernel) ?_
  refine Go_sld (j := 1) rfl (by decide +kernel) (by decide +kernel) ?_
  refine Go_st rfl rfl ?_
  refine Go_st rfl rfl ?_
  refine Go_st rfl rfl ?_
  refine Go_bin (v := 2) rfl (by decide +kernel) ?_
  refine Go_sld (j := 2) rfl (by decide +kernel) (by decide +kernel) ?_
  refine Go_call rfl hx (chkV rfl rfl rfl rfl rfl rfl) ?_
  refine Go_st rfl rfl ?_
  refine Go_st rfl rfl ?_
  refine Go_st rfl rfl ?_
  refine Go_st rfl rfl ?_
  refine Go_bin (v := 1) rfl (by decide +kernel) ?_
  refine Go_sld (j := 1) rfl (by decide +kernel) (by decide +kernel) ?_
  refine Go_st rfl rfl ?_
  refine Go_st rfl rfl ?_
  refine Go_st rfl rfl ?_
  refine Go_bin (v := 2) rfl (by decide +kernel) ?_
  refine Go_sld (j := 2) rfl (by decide +kernel) (by decide +kernel) ?_
  refine Go_call rfl hm (chkV rfl rfl rfl rfl rfl rfl) ?_
  refine Go_st rfl rfl ?_
  refine Go_ifT (decide_eq_true rfl) ?_
  exact law_tail xs h2
set_option maxRecDepth 20000 in
set_option maxHeartbeats 4000000 in
theorem law_60 (xs : Nat → Int32) : ∃ h2, pm_Go (pm_tr (lb_all 6 xs)) (pm_Rt pm_P 8) (1686, [(3, .int 0), (2, .ref 77), (1, .ref 0), (0, .retAddr 0)], [], hp0, 599897, 7298671) (h2, some (.int 1)) := by
  obtain ⟨c, h2, r, hx, hm⟩ := pair_60 (xs 1)
  refine ⟨h2, ?_⟩
  refine Go_st rfl rfl ?_
  refine Go_st rfl rfl ?_
  refine Go_st rfl rfl ?_
  refine Go_st rfl rfl ?_
  refine Go_bin (v := 1) rfl (by decide +kernel) ?_
  refine Go_sld (j := 1) rfl (by decide +kernel) (by decide +kernel) ?_
  refine Go_call rfl hx (chkV rfl rfl rfl rfl rfl rfl) ?_
  refine Go_st rfl rfl ?_
  refine Go_st rfl rfl ?_
  refine Go_st rfl rfl ?_
  refine Go_st rfl rfl ?_
  refine Go_bin (v := 1) rfl (by decide +kernel) ?_
  refine Go_sld (j := 1) rfl (by decide +kernel) (by decide +kernel) ?_
  refine Go_call rfl hm (chkV rfl rfl rfl rfl rfl rfl) ?_
  refine Go_st rfl rfl ?_
  refine Go_ifT (decide_eq_true rfl) ?_
  exact law_tail xs h2
set_option maxRecDepth 20000 in
set_option maxHeartbeats 4000000 in
theorem law_61 (xs : Nat → Int32) : ∃ h2, pm_Go (pm_tr (lb_all 6 xs)) (pm_Rt pm_P 8) (1709, [(3, .int 0), (2, .ref 77), (1, .ref 0), (0, .retAddr 0)], [], hp0, 599897, 7298671) (h2, some (.int 1)) := by
  obtain ⟨c, h2, r, hx, hm⟩ := pair_61 (xs 1)
  refine ⟨h2, ?_⟩
  refine Go_st rfl rfl ?_
  refine Go_st rfl rfl ?_
  refine Go_st rfl rfl ?_
  refine Go_st rfl rfl ?_
  refine Go_bin (v := 1) rfl (by decide +kernel) ?_
  refine Go_sld (j := 1) rfl (by decide +kernel) (by decide +kernel) ?_
  refine Go_call rfl hx (chkV rfl rfl rfl rfl rfl rfl) ?_
  refine Go_st rfl rfl ?_
  refine Go_st rfl rfl ?_
  refine Go_st rfl rfl ?_
  refine Go_st rfl rfl ?_
  refine Go_bin (v := 1) rfl (by decide +kernel) ?_
  refine Go_sld (j := 1) rfl (by decide +kernel) (by decide +kernel) ?_
  refine Go_call rfl hm (chkV rfl rfl rfl rfl rfl rfl) ?_
  refine Go_st rfl rfl ?_
  refine Go_ifT (decide_eq_true rfl) ?_
  exact law_tail xs h2
set_option maxRecDepth 20000 in
set_option maxHeartbeats 4000000 in
theorem law_62 (xs : Nat → Int32) : ∃ h2, pm_Go (pm_tr (lb_all 6 xs)) (pm_Rt pm_P 8) (1732, [(3, .int 0), (2, .ref 77), (1, .ref 0), (0, .retAddr 0)], [], hp0, 599897, 7298671) (h2, some (.int 1)) := by
  obtain ⟨c, h2, r, hx, hm⟩ := pair_62 
  refine ⟨h2, ?_⟩
  refine Go_st rfl rfl ?_
  refine Go_call rfl hx (chkV rfl rfl rfl rfl rfl rfl) ?_
  refine Go_st rfl rfl ?_
  refine Go_call rfl hm (chkV rfl rfl rfl rfl rfl rfl) ?_
  refine Go_st rfl rfl ?_
  refine Go_ifT (decide_eq_true rfl) ?_
  exact law_tail xs h2
set_option maxRecDepth 20000 in
set_option maxHeartbeats 4000000 in
theorem law_63 (xs : Nat → Int32) : ∃ h2, pm_Go (pm_tr (lb_all 6 xs)) (pm_Rt pm_P 8) (1745, [(3, .int 0), (2, .ref 77), (1, .ref 0), (0, .retAddr 0)], [], hp0, 599897, 7298671) (h2, some (.int 1)) := by
  obtain ⟨c, h2, r, hx, hm⟩ := pair_63 (xs 1)
  refine ⟨h2, ?_⟩
  refine Go_st rfl rfl ?_
  refine Go_st rfl rfl ?_
  refine Go_st rfl rfl ?_
  refine Go_st rfl rfl ?_
  refine Go_bin (v := 1) rfl (by decide +kernel) ?_
  refine Go_sld (j := 1) rfl (by decide +kernel) (by decide +kernel) ?_
  refine Go_call rfl hx (chkV rfl rfl rfl rfl rfl rfl) ?_
  refine Go_st rfl rfl ?_
  refine Go_st rfl rfl ?_
  refine Go_st rfl rfl ?_
  refine Go_st rfl rfl ?_
  refine Go_bin (v := 1) rfl (by decide +kernel) ?_
  refine Go_sld (j := 1) rfl (by decide +kernel) (by decide +kernel) ?_
  refine Go_call rfl hm (chkV rfl rfl rfl rfl rfl rfl) ?_
  refine Go_st rfl rfl ?_
  refine Go_ifT (decide_eq_true rfl) ?_
  exact law_tail xs h2
set_option maxRecDepth 20000 in
set_option maxHeartbeats 4000000 in
theorem law_64 (xs : Nat → Int32) : ∃ h2, pm_Go (pm_tr (lb_all 6 xs)) (pm_Rt pm_P 8) (1768, [(3, .int 0), (2, .ref 77), (1, .ref 0), (0, .retAddr 0)], [], hp0, 599897, 7298671) (h2, some (.int 1)) := by
  obtain ⟨c, h2, r, hx, hm⟩ := pair_64 (xs 1) (xs 2)
  refine ⟨h2, ?_⟩
  refine Go_st rfl rfl ?_
  refine Go_st rfl rfl ?_
  refine Go_st rfl rfl ?_
  refine Go_st rfl rfl ?_
  refine Go_bin (v := 1) rfl (by decide +kernel) ?_
  refine Go_sld (j := 1) rfl (by decide +kernel) (by decide +kernel) ?_
  refine Go_st rfl rfl ?_
  refine Go_st rfl rfl ?_
  refine Go_st rfl rfl ?_
  refine Go_bin (v := 2) rfl (by decide +kernel) ?_
  refine Go_sld (j := 2) rfl (by decide +kernel) (by decide +kernel) ?_
  refine Go_call rfl hx (chkV rfl rfl rfl rfl rfl rfl) ?_
  refine Go_st rfl rfl ?_
  refine Go_st rfl rfl ?_
  refine Go_st rfl rfl ?_
  refine Go_st rfl rfl ?_
  refine Go_bin (v := 1) rfl (by decide +kernel) ?_
  refine Go_sld (j := 1) rfl (by decide +kernel) (by decide +kernel) ?_
  refine Go_st rfl rfl ?_
  refine Go_st rfl rfl ?_
  refine Go_st rfl rfl ?_
  refine Go_bin (v := 2) rfl (by decide +kernel) ?_
  refine Go_sld (j := 2) rfl (by decide +kernel) (by decide +kernel) ?_
  refine Go_call rfl hm (chkV rfl rfl rfl rfl rfl rfl) ?_
  refine Go_st rfl rfl ?_
  refine Go_ifT (decide_eq_true rfl) ?_
  exact law_tail xs h2
set_option maxRecDepth 20000 in
set_option maxHeartbeats 4000000 in
theorem law_65 (xs : Nat → Int32) : ∃ h2, pm_Go (pm_tr (lb_all 6 xs)) (pm_Rt pm_P 8) (1801, [(3, .int 0), (2, .ref 77), (1, .ref 0), (0, .retAddr 0)], [], hp0, 599897, 7298671) (h2, some (.int 1)) := by
  obtain ⟨c, h2, r, hx, hm⟩ := pair_65 (xs 1) (xs 2)
  refine ⟨h2, ?_⟩
  refine Go_st rfl rfl ?_
  refine Go_st rfl rfl ?_
  refine Go_st rfl rfl ?_
  refine Go_st rfl rfl ?_
  refine Go_bin (v := 1) rfl (by decide +kernel) ?_
  refine Go_sld (j := 1) rfl (by decide +kernel) (by decide +kernel) ?_
  refine Go_st rfl rfl ?_
  refine Go_st rfl rfl ?_
  refine Go_st rfl rfl ?_
  refine Go_bin (v := 2) rfl (by decide +kernel) ?_
  refine Go_sld (j := 2) rfl (by decide +kernel) (by decide +kernel) ?_
  refine Go_call rfl hx (chkV rfl rfl rfl rfl rfl rfl) ?_
  refine Go_st rfl rfl ?_
  refine Go_st rfl rfl ?_
  refine Go_st rfl rfl ?_
  refine Go_st rfl rfl ?_
  refine Go_bin (v := 1) rfl (by decide +kernel) ?_
  refine Go_sld (j := 1) rfl (by decide +kernel) (by decide +kernel) ?_
  refine Go_st rfl rfl ?_
  refine Go_st rfl rfl ?_
  refine Go_st rfl rfl ?_
  refine Go_bin (v := 2) rfl (by decide +kernel) ?_
  refine Go_sld (j := 2) rfl (by decide +kernel) (by decide +kernel) ?_
  refine Go_call rfl hm (chkV rfl rfl rfl rfl rfl rfl) ?_
  refine Go_st rfl rfl ?_
  refine Go_ifT (decide_eq_true rfl) ?_
  exact law_tail xs h2
set_option maxRecDepth 20000 in
set_option maxHeartbeats 4000000 in
theorem law_66 (xs : Nat → Int32) : ∃ h2, pm_Go (pm_tr (lb_all 6 xs)) (pm_Rt pm_P 8) (1834, [(3, .int 0), (2, .ref 77), (1, .ref 0), (0, .retAddr 0)], [], hp0, 599897, 7298671) (h2, some (.int 1)) := by
  obtain ⟨c, h2, r, hx, hm⟩ := pair_66 (xs 1) (xs 2) (xs 3) (xs 4)
  refine ⟨h2, ?_⟩
  refine Go_st rfl rfl ?_
  refine Go_st rfl rfl ?_
  refine Go_st rfl rfl ?_
  refine Go_st rfl rfl ?_
  refine Go_bin (v := 1) rfl (by decide +kernel) ?_
  refine Go_sld (j := 1) rfl (by decide +kernel) (by decide +kernel) ?_
  refine Go_st rfl rfl ?_
  refine Go_st rfl rfl ?_
  refine Go_st rfl rfl ?_
  refine Go_bin (v := 2) rfl (by decide +kernel) ?_
  refine Go_sld (j := 2) rfl (by decide +kernel) (by decide +kernel) ?_
  refine Go_st rfl rfl ?_
  refine Go_st rfl rfl ?_
  refine Go_st rfl rfl ?_
  refine Go_bin (v := 3) rfl (by decide +kernel) ?_
  refine Go_sld (j := 3) rfl (by decide +kernel) (by decide +kernel) ?_
  refine Go_st rfl rfl ?_
  refine Go_st rfl rfl ?_
  refine Go_st rfl rfl ?_
  refine Go_bin (v := 4) rfl (by decide +kernel) ?_
  refine Go_sld (j := 4) rfl (by decide +kernel) (by decide +kernel) ?_
  refine Go_call rfl hx (chkV rfl rfl rfl rfl rfl rfl) ?_
  refine Go_st rfl rfl ?_
  refine Go_st rfl rfl ?_
  refine Go_st rfl rfl ?_
  refine Go_st rfl rfl ?_
  refine Go_bin (v := 1) rfl (by decide +kernel) ?_
  refine Go_sld (j := 1) rfl (by decide +kernel) (by decide +kernel) ?_
  refine Go_st rfl rfl ?_
  refine Go_st rfl rfl ?_
  refine Go_st rfl rfl ?_
  refine Go_bin (v := 2) rfl (by decide +kernel) ?_
  refine Go_sld (j := 2) rfl (by decide +kernel) (by decide +kernel) ?_
  refine Go_st rfl rfl ?_
  refine Go_st rfl rfl ?_
  refine Go_st rfl rfl ?_
  refine Go_bin (v := 3) rfl (by decide +kernel) ?_
  refine Go_sld (j := 3) rfl (by decide +kernel) (by decide +kernel) ?_
  refine Go_st rfl rfl ?_
  refine Go_st rfl rfl ?_
  refine Go_st rfl rfl ?_
  refine Go_bin (v := 4) rfl (by decide +kernel) ?_
  refine Go_sld (j := 4) rfl (by decide +kernel) (by decide +kernel) ?_
  refine Go_call rfl hm (chkV rfl rfl rfl rfl rfl rfl) ?_
  refine Go_st rfl rfl ?_
  refine Go_ifT (decide_eq_true rfl) ?_
  exact law_tail xs h2
set_option maxRecDepth 20000 in
set_option maxHeartbeats 4000000 in
theorem law_67 (xs : Nat → Int32) : ∃ h2, pm_Go (pm_tr (lb_all 6 xs)) (pm_Rt pm_P 8) (1887, [(3, .int 0), (2, .ref 77), (1, .ref 0), (0, .retAddr 0)], [], hp0, 599897, 7298671) (h2, some (.int 1)) := by
  obtain ⟨c, h2, r, hx, hm⟩ := pair_67 (xs 1) (xs 2)
  refine ⟨h2, ?_⟩
  refine Go_st rfl rfl ?_
  refine Go_st rfl rfl ?_
  refine Go_st rfl rfl ?_
  refine Go_st rfl rfl ?_
  refine Go_bin (v := 1) rfl (by decide +kernel) ?_
  refine Go_sld (j := 1) rfl (by decide +kernel) (by decide +kernel) ?_
  refine Go_st rfl rfl ?_
  refine Go_st rfl rfl ?_
  refine Go_st rfl rfl ?_
  refine Go_bin (v := 2) rfl (by decide +kernel) ?_
  refine Go_sld (j := 2) rfl (by decide +kernel) (by decide +kernel) ?_
  refine Go_call rfl hx (chkV rfl rfl rfl rfl rfl rfl) ?_
  refine Go_st rfl rfl ?_
  refine Go_st rfl rfl ?_
  refine Go_st rfl rfl ?_
  refine Go_st rfl rfl ?_
  refine Go_bin (v := 1) rfl (by decide +kernel) ?_
  refine Go_sld (j := 1) rfl (by decide +kernel) (by decide +kernel) ?_
  refine Go_st rfl rfl ?_
  refine Go_st rfl rfl ?_
  refine Go_st rfl rfl ?_
  refine Go_bin (v := 2) rfl (by decide +kernel) ?_
  refine Go_sld (j := 2) rfl (by decide +kernel) (by decide +kernel) ?_
  refine Go_call rfl hm (chkV rfl rfl rfl rfl rfl rfl) ?_
  refine Go_st rfl rfl ?_
  refine Go_ifT (decide_eq_true rfl) ?_
  exact law_tail xs h2
set_option maxRecDepth 20000 in
set_option maxHeartbeats 4000000 in
theorem law_68 (xs : Nat → Int32) : ∃ h2, pm_Go (pm_tr (lb_all 6 xs)) (pm_Rt pm_P 8) (1920, [(3, .int 0), (2, .ref 77), (1, .ref 0), (0, .retAddr 0)], [], hp0, 599897, 7298671) (h2, some (.int 1)) := by
  obtain ⟨c, h2, r, hx, hm⟩ := pair_68 (xs 1)
  refine ⟨h2, ?_⟩
  refine Go_st rfl rfl ?_
  refine Go_st rfl rfl ?_
  refine Go_st rfl rfl ?_
  refine Go_st rfl rfl ?_
  refine Go_bin (v := 1) rfl (by decide +kernel) ?_
  refine Go_sld (j := 1) rfl (by decide +kernel) (by decide +kernel) ?_
  refine Go_call rfl hx (chkV rfl rfl rfl rfl rfl rfl) ?_
  refine Go_st rfl rfl ?_
  refine Go_st rfl rfl ?_
  refine Go_st rfl rfl ?_
  refine Go_st rfl rfl ?_
  refine Go_bin (v := 1) rfl (by decide +kernel) ?_
  refine Go_sld (j := 1) rfl (by decide +kernel) (by decide +kernel) ?_
  refine Go_call rfl hm (chkV rfl rfl rfl rfl rfl rfl) ?_
  refine Go_st rfl rfl ?_
  refine Go_st rfl rfl ?_
  refine Go_ifT (decide_eq_true ((lg_cmp_eq _ _).mpr rfl)) ?_
  exact law_tail xs h2
set_option maxRecDepth 20000 in
set_option maxHeartbeats 4000000 in
theorem law_69 (xs : Nat → Int32) : ∃ h2, pm_Go (pm_tr (lb_all 6 xs)) (pm_Rt pm_P 8) (1944, [(3, .int 0), (2, .ref 77), (1, .ref 0), (0, .retAddr 0)], [], hp0, 599897, 7298671) (h2, some (.int 1)) := by
  obtain ⟨c, h2, r, hx, hm⟩ := pair_69 (xs 1) (xs 2)
  refine ⟨h2, ?_⟩
  refine Go_st rfl rfl ?_
  refine Go_st rfl rfl ?_
  refine Go_st rfl rfl ?_
  refine Go_st rfl rfl ?_
  refine Go_bin (v := 1) rfl (by decide +kernel) ?_
  refine Go_sld (j := 1) rfl (by decide +kernel) (by decide +kernel) ?_
  refine Go_st rfl rfl ?_
  refine Go_st rfl rfl ?_
  refine Go_st rfl rfl ?_
  refine Go_bin (v := 2) rfl (by decide +kernel) ?_
  refine Go_sld (j := 2) rfl (by decide +kernel) (by decide +kernel) ?_
  refine Go_call rfl hx (chkV rfl rfl rfl rfl rfl rfl) ?_
  refine Go_st rfl rfl ?_
  refine Go_st rfl rfl ?_
  refine Go_st rfl rfl ?_
  refine Go_st rfl rfl ?_
  refine Go_bin (v := 1) rfl (by decide +kernel) ?_
  refine Go_sld (j := 1) rfl (by decide +kernel) (by decide +kernel) ?_
  refine Go_st rfl rfl ?_
  refine Go_st rfl rfl ?_
  refine Go_st rfl rfl ?_
  refine Go_bin (v := 2) rfl (by decide +kernel) ?_
  refine Go_sld (j := 2) rfl (by decide +kernel) (by decide +kernel) ?_
  refine Go_call rfl hm (chkV rfl rfl rfl rfl rfl rfl) ?_
  refine Go_st rfl rfl ?_
  refine Go_ifT (decide_eq_true rfl) ?_
  exact law_tail xs h2
set_option maxRecDepth 20000 in
set_option maxHeartbeats 4000000 in
theorem law_70 (xs : Nat → Int32) : ∃ h2, pm_Go (pm_tr (lb_all 6 xs)) (pm_Rt pm_P 8) (1977, [(3, .int 0), (2, .ref 77), (1, .ref 0), (0, .retAddr 0)], [], hp0, 599897, 7298671) (h2, some (.int 1)) := by
  obtain ⟨c, h2, r, hx, hm⟩ := pair_70 (xs 1) (xs 2)
  refine ⟨h2, ?_⟩
  refine Go_st rfl rfl ?_
  refine Go_st rfl rfl ?_
  refine Go_st rfl rfl ?_
  refine Go_st rfl rfl ?_
  refine Go_bin (v := 1) rfl (by decide +kernel) ?_
  refine Go_sld (j := 1) rfl (by decide +kernel) (by decide +kernel) ?_
  refine Go_st rfl rfl ?_
  refine Go_st rfl rfl ?_
  refine Go_st rfl rfl ?_
  refine Go_bin (v := 2) rfl (by decide +kernel) ?_
  refine Go_sld (j := 2) rfl (by decide +kernel) (by decide +kernel) ?_
  refine Go_call rfl hx (chkV rfl rfl rfl rfl rfl rfl) ?_
  refine Go_st rfl rfl ?_
  refine Go_st rfl rfl ?_
  refine Go_st rfl rfl ?_
  refine Go_st rfl rfl ?_
  refine Go_bin (v := 1) rfl (by decide +kernel) ?_
  refine Go_sld (j := 1) rfl (by decide +kernel) (by decide +kernel) ?_
  refine Go_st rfl rfl ?_
  refine Go_st rfl rfl ?_
  refine Go_st rfl rfl ?_
  refine Go_bin (v := 2) rfl (by decide +kernel) ?_
  refine Go_sld (j := 2) rfl (by decide +kernel) (by decide +kernel) ?_
  refine Go_call rfl hm (chkV rfl rfl rfl rfl rfl rfl) ?_
  refine Go_st rfl rfl ?_
  refine Go_ifT (decide_eq_true rfl) ?_
  exact law_tail xs h2
set_option maxRecDepth 20000 in
set_option maxHeartbeats 4000000 in
theorem law_71 (xs : Nat → Int32) : ∃ h2, pm_Go (pm_tr (lb_all 6 xs)) (pm_Rt pm_P 8) (2010, [(3, .int 0), (2, .ref 77), (1, .ref 0), (0, .retAddr 0)], [], hp0, 599897, 7298671) (h2, some (.int 1)) := by
  obtain ⟨c, h2, r, hx, hm⟩ := pair_71 
  refine ⟨h2, ?_⟩
  refine Go_st rfl rfl ?_
  refine Go_call rfl hx (chkV rfl rfl rfl rfl rfl rfl) ?_
  refine Go_st rfl rfl ?_
  refine Go_call rfl hm (chkV rfl rfl rfl rfl rfl rfl) ?_
  refine Go_st rfl rfl ?_
  refine Go_ifT (decide_eq_true rfl) ?_
  exact law_tail xs h2
set_option maxRecDepth 20000 in
set_option maxHeartbeats 4000000 in
theorem law_72 (xs : Nat → Int32) : ∃ h2, pm_Go (pm_tr (lb_all 6 xs)) (pm_Rt pm_P 8) (2023, [(3, .int 0), (2, .ref 77), (1, .ref 0), (0, .retAddr 0)], [], hp0, 599897, 7298671) (h2, some (.int 1)) := by
  obtain ⟨c, h2, r, hx, hm⟩ := pair_72 
  refine ⟨h2, ?_⟩
  refine Go_st rfl rfl ?_
  refine Go_call rfl hx (chkV rfl rfl rfl rfl rfl rfl) ?_
  refine Go_st rfl rfl ?_
  refine Go_call rfl hm (chkV rfl rfl rfl rfl rfl rfl) ?_
  refine Go_st rfl rfl ?_
  refine Go_ifT (decide_eq_true rfl) ?_
  exact law_tail xs h2
set_option maxRecDepth 20000 in
set_option maxHeartbeats 4000000 in
theorem law_73 (xs : Nat → Int32) : ∃ h2, pm_Go (pm_tr (lb_all 6 xs)) (pm_Rt pm_P 8) (2036, [(3, .int 0), (2, .ref 77), (1, .ref 0), (0, .retAddr 0)], [], hp0, 599897, 7298671) (h2, some (.int 1)) := by
  obtain ⟨c, h2, r, hx, hm⟩ := pair_73 (xs 1) (xs 2)
  refine ⟨h2, ?_⟩
  refine Go_st rfl rfl ?_
  refine Go_st rfl rfl ?_
  refine Go_st rfl rfl ?_
  refine Go_st rfl rfl ?_
  refine Go_bin (v := 1) rfl (by decide +kernel) ?_
  refine Go_sld (j := 1) rfl (by decide +kernel) (by decide +kernel) ?_
  refine Go_st rfl rfl ?_
  refine Go_st rfl rfl ?_
  refine Go_st rfl rfl ?_
  refine Go_bin (v := 2) rfl (by decide +kernel) ?_
  refine Go_sld (j := 2) rfl (by decide +kernel) (by decide +kernel) ?_
  refine Go_call rfl hx (chkV rfl rfl rfl rfl rfl rfl) ?_
  refine Go_st rfl rfl ?_
  refine Go_st rfl rfl ?_
  refine Go_st rfl rfl ?_
  refine Go_st rfl rfl ?_
  refine Go_bin (v := 1) rfl (by decide +kernel) ?_
  refine Go_sld (j := 1) rfl (by decide +kernel) (by decide +kernel) ?_
  refine Go_st rfl rfl ?_
  refine Go_st rfl rfl ?_
  refine Go_st rfl rfl ?_
  refine Go_bin (v := 2) rfl (by decide +kernel) ?_
  refine Go_sld (j := 2) rfl (by decide +kernel) (by decide +kernel) ?_
  refine Go_call rfl hm (chkV rfl rfl rfl rfl rfl rfl) ?_
  refine Go_st rfl rfl ?_
  refine Go_ifT (decide_eq_true rfl) ?_
  exact law_tail xs h2
set_option maxRecDepth 20000 in
set_option maxHeartbeats 4000000 in
theorem law_74 (xs : Nat → Int32) : ∃ h2, pm_Go (pm_tr (lb_all 6 xs)) (pm_Rt pm_P 8) (2069, [(3, .int 0), (2, .ref 77), (1, .ref 0), (0, .retAddr 0)], [], hp0, 599897, 7298671) (h2, some (.int 1)) := by
  obtain ⟨c, h2, r, hx, hm⟩ := pair_74 (xs 1) (xs 2) (xs 3)
  refine ⟨h2, ?_⟩
  refine Go_st rfl rfl ?_
  refine Go_st rfl rfl ?_
  refine Go_st rfl rfl ?_
  refine Go_st rfl rfl ?_
  refine Go_bin (v := 1) rfl (by decide +kernel) ?_
  refine Go_sld (j := 1) rfl (by decide +kernel) (by decide +kernel) ?_
  refine Go_st rfl rfl ?_
  refine Go_st rfl rfl ?_
  refine Go_st rfl rfl ?_
  refine Go_bin (v := 2) rfl (by decide +kernel) ?_
  refine Go_sld (j := 2) rfl (by decide +kernel) (by decide +kernel) ?_
  refine Go_st rfl rfl ?_
  refine Go_st rfl rfl ?_
  refine Go_st rfl rfl ?_
  refine Go_bin (v := 3) rfl (by decide +kernel) ?_
  refine Go_sld (j := 3) rfl (by decide +kernel) (by decide +kernel) ?_
  refine Go_call rfl hx (chkV rfl rfl rfl rfl rfl rfl) ?_
  refine Go_st rfl rfl ?_
  refine Go_st rfl rfl ?_
  refine Go_st rfl rfl ?_
  refine Go_st rfl rfl ?_
  refine Go_bin (v := 1) rfl (by decide +kernel) ?_
  refine Go_sld (j := 1) rfl (by decide +kernel) (by decide +kernel) ?_
  refine Go_st rfl rfl ?_
  refine Go_st rfl rfl ?_
  refine Go_st rfl rfl ?_
  refine Go_bin (v := 2) rfl (by decide +kernel) ?_
  refine Go_sld (j := 2) rfl (by decide +kernel) (by decide +kernel) ?_
  refine Go_st rfl rfl ?_
  refine Go_st rfl rfl ?_
  refine Go_st rfl rfl ?_
  refine Go_bin (v := 3) rfl (by decide +kernel) ?_
  refine Go_sld (j := 3) rfl (by decide +kernel) (by decide +kernel) ?_
  refine Go_call rfl hm (chkV rfl rfl rfl rfl rfl rfl) ?_
  refine Go_st rfl rfl ?_
  refine Go_ifT (decide_eq_true rfl) ?_
  exact law_tail xs h2
set_option maxRecDepth 20000 in
set_option maxHeartbeats 4000000 in
theorem law_75 (xs : Nat → Int32) : ∃ h2, pm_Go (pm_tr (lb_all 6 xs)) (pm_Rt pm_P 8) (2112, [(3, .int 0), (2, .ref 77), (1, .ref 0), (0, .retAddr 0)], [], hp0, 599897, 7298671) (h2, some (.int 1)) := by
  obtain ⟨c, h2, r, hx, hm⟩ := pair_75 (xs 1) (xs 2)
  refine ⟨h2, ?_⟩
  refine Go_st rfl rfl ?_
  refine Go_st rfl rfl ?_
  refine Go_st rfl rfl ?_
  refine Go_st rfl rfl ?_
  refine Go_bin (v := 1) rfl (by decide +kernel) ?_
  refine Go_sld (j := 1) rfl (by decide +kernel) (by decide +kernel) ?_
  refine Go_st rfl rfl ?_
  refine Go_st rfl rfl ?_
  refine Go_st rfl rfl ?_
  refine Go_bin (v := 2) rfl (by decide +kernel) ?_
  refine Go_sld (j := 2) rfl (by decide +kernel) (by decide +kernel) ?_
  refine Go_call rfl hx (chkV rfl rfl rfl rfl rfl rfl) ?_
  refine Go_st rfl rfl ?_
  refine Go_st rfl rfl ?_
  refine Go_st rfl rfl ?_
  refine Go_st rfl rfl ?_
  refine Go_bin (v := 1) rfl (by decide +kernel) ?_
  refine Go_sld (j := 1) rfl (by decide +kernel) (by decide +kernel) ?_
  refine Go_st rfl rfl ?_
  refine Go_st rfl rfl ?_
  refine Go_st rfl rfl ?_
  refine Go_bin (v := 2) rfl (by decide +kernel) ?_
  refine Go_sld (j := 2) rfl (by decide +kernel) (by decide +kernel) ?_
  refine Go_call rfl hm (chkV rfl rfl rfl rfl rfl rfl) ?_
  refine Go_st rfl rfl ?_
  refine Go_ifT (decide_eq_true rfl) ?_
  exact law_tail xs h2
set_option maxRecDepth 20000 in
set_option maxHeartbeats 4000000 in
theorem law_76 (xs : Nat → Int32) : ∃ h2, pm_Go (pm_tr (lb_all 6 xs)) (pm_Rt pm_P 8) (2145, [(3, .int 0), (2, .ref 77), (1, .ref 0), (0, .retAddr 0)], [], hp0, 599897, 7298671) (h2, some (.int 1)) := by
  obtain ⟨c, h2, r, hx, hm⟩ := pair_76 (xs 1)
  refine ⟨h2, ?_⟩
  refine Go_st rfl rfl ?_
  refine Go_st rfl rfl ?_
  refine Go_st rfl rfl ?_
  refine Go_st rfl rfl ?_
  refine Go_bin (v := 1) rfl (by decide +kernel) ?_
  refine Go_sld (j := 1) rfl (by decide +kernel) (by decide +kernel) ?_
  refine Go_call rfl hx (chkV rfl rfl rfl rfl rfl rfl) ?_
  refine Go_st rfl rfl ?_
  refine Go_st rfl rfl ?_
  refine Go_st rfl rfl ?_
  refine Go_st rfl rfl ?_
  refine Go_bin (v := 1) rfl (by decide +kernel) ?_
  refine Go_sld (j := 1) rfl (by decide +kernel) (by decide +kernel) ?_
  refine Go_call rfl hm (chkV rfl rfl rfl rfl rfl rfl) ?_
  refine Go_st rfl rfl ?_
  refine Go_ifT (decide_eq_true rfl) ?_
  exact law_tail xs h2
set_option maxRecDepth 20000 in
set_option maxHeartbeats 4000000 in
theorem law_77 (xs : Nat → Int32) : ∃ h2, pm_Go (pm_tr (lb_all 6 xs)) (pm_Rt pm_P 8) (2168, [(3, .int 0), (2, .ref 77), (1, .ref 0), (0, .retAddr 0)], [], hp0, 599897, 7298671) (h2, some (.int 1)) := by
  obtain ⟨c, h2, r, hx, hm⟩ := pair_77 (xs 1)
  refine ⟨h2, ?_⟩
  refine Go_st rfl rfl ?_
  refine Go_st rfl rfl ?_
  refine Go_st rfl rfl ?_
  refine Go_st rfl rfl ?_
  refine Go_bin (v := 1) rfl (by decide +kernel) ?_
  refine Go_sld (j := 1) rfl (by decide +kernel) (by decide +kernel) ?_
  refine Go_call rfl hx (chkV rfl rfl rfl rfl rfl rfl) ?_
  refine Go_st rfl rfl ?_
  refine Go_st rfl rfl ?_
  refine Go_st rfl rfl ?_
  refine Go_st rfl rfl ?_
  refine Go_bin (v := 1) rfl (by decide +kernel) ?_
  refine Go_sld (j := 1) rfl (by decide +kernel) (by decide +kernel) ?_
  refine Go_call rfl hm (chkV rfl rfl rfl rfl rfl rfl) ?_
  refine Go_st rfl rfl ?_
  refine Go_ifT (decide_eq_true rfl) ?_
  exact law_tail xs h2
set_option maxRecDepth 20000 in
set_option maxHeartbeats 4000000 in
theorem law_78 (xs : Nat → Int32) : ∃ h2, pm_Go (pm_tr (lb_all 6 xs)) (pm_Rt pm_P 8) (2191, [(3, .int 0), (2, .ref 77), (1, .ref 0), (0, .retAddr 0)], [], hp0, 599897, 7298671) (h2, some (.int 1)) := by
  obtain ⟨c, h2, r, hx, hm⟩ := pair_78 (xs 1)
  refine ⟨h2, ?_⟩
  refine Go_st rfl rfl ?_
  refine Go_st rfl rfl ?_
  refine Go_st rfl rfl ?_
  refine Go_st rfl rfl ?_
  refine Go_bin (v := 1) rfl (by decide +kernel) ?_
  refine Go_sld (j := 1) rfl (by decide +kernel) (by decide +kernel) ?_
  refine Go_call rfl hx (chkV rfl rfl rfl rfl rfl rfl) ?_
  refine Go_st rfl rfl ?_
  refine Go_st rfl rfl ?_
  refine Go_st rfl rfl ?_
  refine Go_st rfl rfl ?_
  refine Go_bin (v := 1) rfl (by decide +kernel) ?_
  refine Go_sld (j := 1) rfl (by decide +kernel) (by decide +kernel) ?_
  refine Go_call rfl hm (chkV rfl rfl rfl rfl rfl rfl) ?_
  refine Go_st rfl rfl ?_
  refine Go_ifT (decide_eq_true rfl) ?_
  exact law_tail xs h2
set_option maxRecDepth 20000 in
set_option maxHeartbeats 4000000 in
theorem law_79 (xs : Nat → Int32) : ∃ h2, pm_Go (pm_tr (lb_all 6 xs)) (pm_Rt pm_P 8) (2214, [(3, .int 0), (2, .ref 77), (1, .ref 0), (0, .retAddr 0)], [], hp0, 599897, 7298671) (h2, some (.int 1)) := by
  obtain ⟨c, h2, r, hx, hm⟩ := pair_79 (xs 1) (xs 2) (xs 3)
  refine ⟨h2, ?_⟩
  refine Go_st rfl rfl ?_
  refine Go_st rfl rfl ?_
  refine Go_st rfl rfl ?_
  refine Go_st rfl rfl ?_
  refine Go_bin (v := 1) rfl (by decide +kernel) ?_
  refine Go_sld (j := 1) rfl (by decide +kernel) (by decide +kernel) ?_
  refine Go_st rfl rfl ?_
  refine Go_st rfl rfl ?_
  refine Go_st rfl rfl ?_
  refine Go_bin (v := 2) rfl (by decide +kernel) ?_
  refine Go_sld (j := 2) rfl (by decide +kernel) (by decide +kernel) ?_
  refine Go_st rfl rfl ?_
  refine Go_st rfl rfl ?_
  refine Go_st rfl rfl ?_
  refine Go_bin (v := 3) rfl (by decide +kernel) ?_
  refine Go_sld (j := 3) rfl (by decide +kernel) (by decide +kernel) ?_
  refine Go_call rfl hx (chkV rfl rfl rfl rfl rfl rfl) ?_
  refine Go_st rfl rfl ?_
  refine Go_st rfl rfl ?_
  refine Go_st rfl rfl ?_
  refine Go_st rfl rfl ?_
  refine Go_bin (v := 1) rfl (by decide +kernel) ?_
  refine Go_sld (j := 1) rfl (by decide +kernel) (by decide +kernel) ?_
  refine Go_st rfl rfl ?_
  refine Go_st rfl rfl ?_
  refine Go_st rfl rfl ?_
  refine Go_bin (v := 2) rfl (by decide +kernel) ?_
  refine Go_sld (j := 2) rfl (by decide +kernel) (by decide +kernel) ?_
  refine Go_st rfl rfl ?_
  refine Go_st rfl rfl ?_
  refine Go_st rfl rfl ?_
  refine Go_bin (v := 3) rfl (by decide +kernel) ?_
  refine Go_sld (j := 3) rfl (by decide +kernel) (by decide +kernel) ?_
  refine Go_call rfl hm (chkV rfl rfl rfl rfl rfl rfl) ?_
  refine Go_st rfl rfl ?_
  refine Go_ifT (decide_eq_true rfl) ?_
  exact law_tail xs h2
set_option maxRecDepth 20000 in
set_option maxHeartbeats 4000000 in
theorem law_80 (xs : Nat → Int32) : ∃ h2, pm_Go (pm_tr (lb_all 6 xs)) (pm_Rt pm_P 8) (2257, [(3, .int 0), (2, .ref 77), (1, .ref 0), (0, .retAddr 0)], [], hp0, 599897, 7298671) (h2, some (.int 1)) := by
  obtain ⟨c, h2, r, hx, hm⟩ := pair_80 (xs 1) (xs 2) (((xs 3).toInt64 <<< ((32 : Int32).toInt64 &&& 63)) ||| ((xs 4).toInt64 &&& 4294967295))
  refine ⟨h2, ?_⟩
  refine Go_st rfl rfl ?_
  refine Go_st rfl rfl ?_
  refine Go_st rfl rfl ?_
  refine Go_st rfl rfl ?_
  refine Go_bin (v := 1) rfl (by decide +kernel) ?_
  refine Go_sld (j := 1) rfl (by decide +kernel) (by decide +kernel) ?_
  refine Go_st rfl rfl ?_
  refine Go_st rfl rfl ?_
  refine Go_st rfl rfl ?_
  refine Go_bin (v := 2) rfl (by decide +kernel) ?_
  refine Go_sld (j := 2) rfl (by decide +kernel) (by decide +kernel) ?_
  refine Go_st rfl rfl ?_
  refine Go_st rfl rfl ?_
  refine Go_st rfl rfl ?_
  refine Go_bin (v := 3) rfl (by decide +kernel) ?_
  refine Go_sld (j := 3) rfl (by decide +kernel) (by decide +kernel) ?_
  refine Go_st rfl rfl ?_
  refine Go_st rfl rfl ?_
  refine Go_st rfl rfl ?_
  refine Go_st rfl rfl ?_
  refine Go_st rfl rfl ?_
  refine Go_st rfl rfl ?_
  refine Go_bin (v := 4) rfl (by decide +kernel) ?_
  refine Go_sld (j := 4) rfl (by decide +kernel) (by decide +kernel) ?_
  refine Go_st rfl rfl ?_
  refine Go_st rfl rfl ?_
  refine Go_st rfl rfl ?_
  refine Go_st rfl rfl ?_
  refine Go_call rfl hx (chkV rfl rfl rfl rfl rfl rfl) ?_
  refine Go_st rfl rfl ?_
  refine Go_st rfl rfl ?_
  refine Go_st rfl rfl ?_
  refine Go_st rfl rfl ?_
  refine Go_bin (v := 1) rfl (by decide +kernel) ?_
  refine Go_sld (j := 1) rfl (by decide +kernel) (by decide +kernel) ?_
  refine Go_st rfl rfl ?_
  refine Go_st rfl rfl ?_
  refine Go_st rfl rfl ?_
  refine Go_bin (v := 2) rfl (by decide +kernel) ?_
  refine Go_sld (j := 2) rfl (by decide +kernel) (by decide +kernel) ?_
  refine Go_st rfl rfl ?_
  refine Go_st rfl rfl ?_
  refine Go_st rfl rfl ?_
  refine Go_bin (v := 3) rfl (by decide +kernel) ?_
  refine Go_sld (j := 3) rfl (by decide +kernel) (by decide +kernel) ?_
  refine Go_st rfl rfl ?_
  refine Go_st rfl rfl ?_
  refine Go_st rfl rfl ?_
  refine Go_st rfl rfl ?_
  refine Go_st rfl rfl ?_
  refine Go_st rfl rfl ?_
  refine Go_bin (v := 4) rfl (by decide +kernel) ?_
  refine Go_sld (j := 4) rfl (by decide +kernel) (by decide +kernel) ?_
  refine Go_st rfl rfl ?_
  refine Go_st rfl rfl ?_
  refine Go_st rfl rfl ?_
  refine Go_st rfl rfl ?_
  refine Go_call rfl hm (chkV rfl rfl rfl rfl rfl rfl) ?_
  refine Go_st rfl rfl ?_
  refine Go_ifT (decide_eq_true rfl) ?_
  exact law_tail xs h2
set_option maxRecDepth 20000 in
set_option maxHeartbeats 4000000 in
theorem law_81 (xs : Nat → Int32) : ∃ h2, pm_Go (pm_tr (lb_all 6 xs)) (pm_Rt pm_P 8) (2330, [(3, .int 0), (2, .ref 77), (1, .ref 0), (0, .retAddr 0)], [], hp0, 599897, 7298671) (h2, some (.int 1)) := by
  obtain ⟨c, h2, r, hx, hm⟩ := pair_81 (xs 1) (xs 2) (xs 3) (xs 4) (xs 5)
  refine ⟨h2, ?_⟩
  refine Go_st rfl rfl ?_
  refine Go_st rfl rfl ?_
  refine Go_st rfl rfl ?_
  refine Go_st rfl rfl ?_
  refine Go_bin (v := 1) rfl (by decide +kernel) ?_
  refine Go_sld (j := 1) rfl (by decide +kernel) (by decide +kernel) ?_
  refine Go_st rfl rfl ?_
  refine Go_st rfl rfl ?_
  refine Go_st rfl rfl ?_
  refine Go_bin (v := 2) rfl (by decide +kernel) ?_
  refine Go_sld (j := 2) rfl (by decide +kernel) (by decide +kernel) ?_
  refine Go_st rfl rfl ?_
  refine Go_st rfl rfl ?_
  refine Go_st rfl rfl ?_
  refine Go_bin (v := 3) rfl (by decide +kernel) ?_
  refine Go_sld (j := 3) rfl (by decide +kernel) (by decide +kernel) ?_
  refine Go_st rfl rfl ?_
  refine Go_st rfl rfl ?_
  refine Go_st rfl rfl ?_
  refine Go_bin (v := 4) rfl (by decide +kernel) ?_
  refine Go_sld (j := 4) rfl (by decide +kernel) (by decide +kernel) ?_
  refine Go_st rfl rfl ?_
  refine Go_st rfl rfl ?_
  refine Go_st rfl rfl ?_
  refine Go_bin (v := 5) rfl (by decide +kernel) ?_
  refine Go_sld (j := 5) rfl (by decide +kernel) (by decide +kernel) ?_
  refine Go_call rfl hx (chkV rfl rfl rfl rfl rfl rfl) ?_
  refine Go_st rfl rfl ?_
  refine Go_st rfl rfl ?_
  refine Go_st rfl rfl ?_
  refine Go_st rfl rfl ?_
  refine Go_bin (v := 1) rfl (by decide +kernel) ?_
  refine Go_sld (j := 1) rfl (by decide +kernel) (by decide +kernel) ?_
  refine Go_st rfl rfl ?_
  refine Go_st rfl rfl ?_
  refine Go_st rfl rfl ?_
  refine Go_bin (v := 2) rfl (by decide +kernel) ?_
  refine Go_sld (j := 2) rfl (by decide +kernel) (by decide +kernel) ?_
  refine Go_st rfl rfl ?_
  refine Go_st rfl rfl ?_
  refine Go_st rfl rfl ?_
  refine Go_bin (v := 3) rfl (by decide +kernel) ?_
  refine Go_sld (j := 3) rfl (by decide +kernel) (by decide +kernel) ?_
  refine Go_st rfl rfl ?_
  refine Go_st rfl rfl ?_
  refine Go_st rfl rfl ?_
  refine Go_bin (v := 4) rfl (by decide +kernel) ?_
  refine Go_sld (j := 4) rfl (by decide +kernel) (by decide +kernel) ?_
  refine Go_st rfl rfl ?_
  refine Go_st rfl rfl ?_
  refine Go_st rfl rfl ?_
  refine Go_bin (v := 5) rfl (by decide +kernel) ?_
  refine Go_sld (j := 5) rfl (by decide +kernel) (by decide +kernel) ?_
  refine Go_call rfl hm (chkV rfl rfl rfl rfl rfl rfl) ?_
  refine Go_st rfl rfl ?_
  refine Go_ifT (decide_eq_true rfl) ?_
  exact law_tail xs h2
