section
theorem tp_turned {h0 : pm_H} {d : Nat} (hh0 : HH h0) (hR : RI 0 h0) : Sp (d + 30) 364 h0 [.ref 77] (TQ h0) := by
  refine Sp_of aiX9_turned rfl rfl rfl ?_
  have L0 : pm_get (lv_args 0 [.ref 77]) 0 = some (.ref 77) := rfl
  generalize lv_args 0 [.ref 77] = lv at L0 ⊢
  refine E_al rfl L0 ?_
  refine E_ci 0 rfl ci0 ?_
  refine E_pf rfl hh0 rfl ?_
  have hh1 : HH (pt h0 77 0 (nJ 0)) := HH_ptn hh0 rfl (by omega) (by omega) (by omega)
  have fr1 : fr_g TM h0 (pt h0 77 0 (nJ 0)) := fr_ptr (l := 0) (u := 0) rfl (by omega) (by omega) (fr_rf TM h0)
  refine E_al rfl L0 ?_
  refine E_call rfl (sp_isStreet hh1) (chk77 hh1 rfl rfl (by show 0 ≤ 8; decide)) (fun h2 r2 => ?_)
  rintro ⟨e2, f2⟩
  rw [e2, f2]
  show Ends _ _ (9, lv, [.int (zb (0 < (gi (pt h0 77 0 (nJ 0)) 83 0).toInt))], (pt h0 77 0 (nJ 0)), 0, 0) _
  by_cases hb3 : 0 < (gi (pt h0 77 0 (nJ 0)) 83 0).toInt
  · refine E_ifT rfl (by rw [zb_T hb3]; rfl) ?_
    refine E_al rfl L0 ?_
    refine E_call rfl (Sp_le (by first | exact Nat.add_le_add_left (Nat.le_of_ble_eq_true rfl) _ | exact Nat.le_of_ble_eq_true rfl | omega) (sp_lays (d := 0) hh1 (RI_fr hR rfl fr1))) (chk77 hh1 rfl rfl (by show 0 ≤ 8; decide)) (fun h4 r4 => ?_)
    rintro ⟨e4, hh4, fq4, wq4⟩
    rw [e4]
    have fr4 : fr_g TM h0 h4 := fr_trans fr1 (fr_wk rfl fq4)
    show Ends _ _ (19, lv, [], h4, 0, 0) _
    refine E_al rfl L0 ?_
    refine E_call rfl (Sp_le (by first | exact Nat.add_le_add_left (Nat.le_of_ble_eq_true rfl) _ | exact Nat.le_of_ble_eq_true rfl | omega) (sp_isLawful (d := 0) hh4)) (chk77 hh4 rfl rfl (by show 0 ≤ 8; decide)) (fun h5 r5 => ?_)
    rintro ⟨e5, f5⟩
    rw [e5]
    rcases f5 with f5 | ⟨f5, lw5⟩
    · rw [f5]
      show Ends _ _ (23, lv, [.int (nJ 0)], h4, 0, 0) _
      refine E_ifF rfl (by decide) ?_
      refine E_c rfl ?_
      exact E_rti rfl ⟨hh4, fr4, _, rfl⟩
    · rw [f5]
      show Ends _ _ (23, lv, [.int (nJ 1)], h4, 0, 0) _
      refine E_ifT rfl (by decide) ?_
      refine E_al rfl L0 ?_
      refine E_call rfl (Sp_le (by first | exact Nat.add_le_add_left (Nat.le_of_ble_eq_true rfl) _ | exact Nat.le_of_ble_eq_true rfl | omega) (sp_searches (d := 0) hh4 lw5)) (chk77 hh4 rfl rfl (by show 0 ≤ 8; decide)) (fun h6 r6 => ?_)
      rintro ⟨e6, hh6, fq6, dq6⟩
      rw [e6]
      have fr6 : fr_g TM h0 h6 := fr_trans fr4 (fr_wk rfl fq6)
      have pe6 : gn h6 84 0 = gn h4 84 3 := by rw [fr_gn fq6 (rg_no rfl _)]; exact lw5.1.symm
      show Ends _ _ (32, lv, [], h6, 0, 0) _
      refine E_al rfl L0 ?_
      refine E_al rfl L0 ?_
      refine E_call rfl (sp_places hh6) (chk77 hh6 rfl rfl (by show 1 ≤ 8; decide)) (fun h7 r7 => ?_)
      rintro ⟨e7, f7, c7⟩
      rw [e7, f7]
      show Ends _ _ (37, lv, [.int (nJ (gn h6 84 0)), .ref 77], h6, 0, 0) _
      refine E_call rfl (Sp_le (by first | exact Nat.add_le_add_left (Nat.le_of_ble_eq_true rfl) _ | exact Nat.le_of_ble_eq_true rfl | omega) (sp_turnedIn (d := 0) hh6 (by omega) (fun v h1 h2 => dq6 v h1 (by omega)))) (chk77 hh6 rfl rfl (by show 0 ≤ 8; decide)) (fun h8 r8 => ?_)
      rintro ⟨e8, x8, f8⟩
      rw [e8, f8]
      show Ends _ _ (40, lv, [.int x8], h6, 0, 0) _
      exact E_rti rfl ⟨hh6, fr6, _, rfl⟩
  · refine E_ifF rfl (by rw [zb_F hb3]; rfl) ?_
    refine E_c rfl ?_
    exact E_rti rfl ⟨hh1, fr1, _, rfl⟩
theorem tp_kids {h0 : pm_H} {d : Nat} {x : Int32} (hh0 : HH h0) (hR : RI 0 h0) : Sp (d + 30) 284 h0 [.ref 77, .int x] (TQ h0) := by
  refine Sp_of aiX9_kids rfl rfl rfl ?_
  have L0 : pm_get (lv_args 0 [.ref 77, .int x]) 0 = some (.ref 77) := rfl
  have L1 : pm_get (lv_args 0 [.ref 77, .int x]) 1 = some (.int x) := rfl
  generalize lv_args 0 [.ref 77, .int x] = lv at L0 L1 ⊢
  refine E_al rfl L0 ?_
  refine E_ci 0 rfl ci0 ?_
  refine E_pf rfl hh0 rfl ?_
  have hh1 : HH (pt h0 77 0 (nJ 0)) := HH_ptn hh0 rfl (by omega) (by omega) (by omega)
  have fr1 : fr_g TM h0 (pt h0 77 0 (nJ 0)) := fr_ptr (l := 0) (u := 0) rfl (by omega) (by omega) (fr_rf TM h0)
  refine E_al rfl L0 ?_
  refine E_il rfl L1 ?_
  refine E_call rfl (Sp_le (by first | exact Nat.add_le_add_left (Nat.le_of_ble_eq_true rfl) _ | exact Nat.le_of_ble_eq_true rfl | omega) (sp_isNode (d := 0) hh1)) (chk77 hh1 rfl rfl (by show 0 ≤ 8; decide)) (fun h2 r2 => ?_)
  rintro ⟨e2, f2⟩
  rw [e2, f2]
  show Ends _ _ (10, lv, [.int (zb (0 < (gi (pt h0 77 0 (nJ 0)) 83 0).toInt ∧ 0 ≤ x.toInt ∧ x.toInt ≤ (gn (pt h0 77 0 (nJ 0)) 84 0 : Int)))], (pt h0 77 0 (nJ 0)), 0, 0) _
  by_cases hb3 : 0 < (gi (pt h0 77 0 (nJ 0)) 83 0).toInt ∧ 0 ≤ x.toInt ∧ x.toInt ≤ (gn (pt h0 77 0 (nJ 0)) 84 0 : Int)
  · refine E_ifT rfl (by rw [zb_T hb3]; rfl) ?_
    have hP8 : gn (pt h0 77 0 (nJ 0)) 84 0 ≤ 8 := gn_hi hh1 rfl (by decide)
    obtain ⟨k, hk, rfl⟩ := nJ_of2 (n := gn (pt h0 77 0 (nJ 0)) 84 0) hb3.2.1 hb3.2.2
    refine E_al rfl L0 ?_
    refine E_call rfl (Sp_le (by first | exact Nat.add_le_add_left (Nat.le_of_ble_eq_true rfl) _ | exact Nat.le_of_ble_eq_true rfl | omega) (sp_lays (d := 0) hh1 (RI_fr hR rfl fr1))) (chk77 hh1 rfl rfl (by show 0 ≤ 8; decide)) (fun h4 r4 => ?_)
    rintro ⟨e4, hh4, fq4, wq4⟩
    rw [e4]
    have fr4 : fr_g TM h0 h4 := fr_trans fr1 (fr_wk rfl fq4)
    show Ends _ _ (20, lv, [], h4, 0, 0) _
    refine E_al rfl L0 ?_
    refine E_call rfl (Sp_le (by first | exact Nat.add_le_add_left (Nat.le_of_ble_eq_true rfl) _ | exact Nat.le_of_ble_eq_true rfl | omega) (sp_isLawful (d := 0) hh4)) (chk77 hh4 rfl rfl (by show 0 ≤ 8; decide)) (fun h5 r5 => ?_)
    rintro ⟨e5, f5⟩
    rw [e5]
    rcases f5 with f5 | ⟨f5, lw5⟩
    · rw [f5]
      show Ends _ _ (24, lv, [.int (nJ 0)], h4, 0, 0) _
      refine E_ifF rfl (by decide) ?_
      refine E_c rfl ?_
      exact E_rti rfl ⟨hh4, fr4, _, rfl⟩
    · rw [f5]
      show Ends _ _ (24, lv, [.int (nJ 1)], h4, 0, 0) _
      refine E_ifT rfl (by decide) ?_
      refine E_al rfl L0 ?_
      refine E_call rfl (Sp_le (by first | exact Nat.add_le_add_left (Nat.le_of_ble_eq_true rfl) _ | exact Nat.le_of_ble_eq_true rfl | omega) (sp_laysTree (d := 0) hh4 lw5 wq4)) (chk77 hh4 rfl rfl (by show 0 ≤ 8; decide)) (fun h6 r6 => ?_)
      rintro ⟨e6, hh6, fq6, dq6⟩
      rw [e6]
      have fr6 : fr_g TM h0 h6 := fr_trans fr4 (fr_wk rfl fq6)
      have pe6 : gn h6 84 0 = gn h4 84 3 := by rw [fr_gn fq6 (rg_no rfl _)]; exact lw5.1.symm
      show Ends _ _ (33, lv, [], h6, 0, 0) _
      refine E_al rfl L0 ?_
      refine E_il rfl L1 ?_
      refine E_al rfl L0 ?_
      refine E_call rfl (sp_places hh6) (chk77 hh6 rfl rfl (by show 2 ≤ 8; decide)) (fun h7 r7 => ?_)
      rintro ⟨e7, f7, c7⟩
      rw [e7, f7]
      show Ends _ _ (39, lv, [.int (nJ (gn h6 84 0)), .int (nJ k), .ref 77], h6, 0, 0) _
      refine E_call rfl (Sp_le (by first | exact Nat.add_le_add_left (Nat.le_of_ble_eq_true rfl) _ | exact Nat.le_of_ble_eq_true rfl | omega) (Sp_sum (as := [.ref 77, .int (nJ k), .int (nJ ((gn h6 84 0)))]) q295 hh6 ⟨rfl, nJ_in (by omega) (by omega), nJ_in (by omega) (by omega), trivial⟩ (fun _ hq => absurd hq List.not_mem_nil) (fun _ hq => absurd hq List.not_mem_nil))) (chk77 hh6 rfl rfl (by show 0 ≤ 8; decide)) (fun h8 r8 => ?_)
      rintro ⟨hh8, fq8, C8, hC8, -, -, -, rv8⟩
      obtain ⟨x8, f8⟩ := rv_int295 hC8 rv8
      rw [f8]
      have fr8 : fr_g TM h0 h8 := fr_trans fr6 (fr_wk rfl fq8)
      have pe8 : gn h8 84 0 = gn h6 84 0 := fr_gn fq8 rfl
      show Ends _ _ (42, lv, [.int x8], h8, 0, 0) _
      exact E_rti rfl ⟨hh8, fr8, _, rfl⟩
  · refine E_ifF rfl (by rw [zb_F hb3]; rfl) ?_
    refine E_c rfl ?_
    exact E_rti rfl ⟨hh1, fr1, _, rfl⟩
theorem dp_loop {h0 h : pm_H} {d : Nat} (hh : HH h) (hfr : fr_g TM h0 h) (e : Nat) : ∀ {n : Int32} {u : Nat} (lv : List (Nat × Value)), u ≤ 8 → dep (gn h 92) e u → pm_get lv 0 = some (.ref 77) → pm_get lv 2 = some (.int n) → pm_get lv 3 = some (.int (nJ u)) → Ends (pm_at tX9_depth) (pm_Rt pm_P d) (40, lv, [], h, 0, 0) (TQ h0) := by
  induction e with
  | zero =>
    intro n u lv hu hd L0 L2 L3
    have hd : u = 0 := hd
    refine E_il rfl L3 ?_
    refine E_ifT rfl (decide_eq_true ((nJ_eq0 (by omega)).mpr hd)) ?_
    refine E_il rfl L2 ?_
    exact E_rti rfl ⟨hh, hfr, _, rfl⟩
  | succ e ih =>
    intro n u lv hu hd L0 L2 L3
    refine E_il rfl L3 ?_
    by_cases hb1 : u = 0
    · refine E_ifT rfl (decide_eq_true ((nJ_eq0 (by omega)).mpr hb1)) ?_
      refine E_il rfl L2 ?_
      exact E_rti rfl ⟨hh, hfr, _, rfl⟩
    · refine E_ifF rfl (decide_eq_false (fun q => hb1 ((nJ_eq0 (by omega)).mp q))) ?_
      refine E_inc rfl L2 rfl (fun lv2 L2_2 kp2 => ?_)
      have L2_0 := kp2 0 _ (nbz rfl) rfl L0
      have L2_3 := kp2 3 _ (nbz rfl) rfl L3
      refine E_al rfl L2_0 ?_
      refine E_gr rfl hh (q := 92) rfl ?_
      refine E_il rfl L2_3 ?_
      have b3 : gn h 92 u ≤ 8 := gn_hi hh (bd_u rfl (by omega)) (by decide)
      refine E_ial rfl hh rfl (by omega) (by decide) (gi_gn hh (bd_u rfl (by omega)) (by decide)) ?_
      refine E_is rfl (fun lv4 L4_3 kp4 => ?_)
      have L4_0 := kp4 0 _ (nbz rfl) rfl L2_0
      have L4_2 := kp4 2 _ (nbz rfl) rfl L2_2
      refine E_goto rfl ?_
      refine ih lv4 (by omega) ?_ L4_0 L4_2 L4_3
      cases hd with
      | inl q => exact absurd q hb1
      | inr q => exact q
theorem tp_depth {h0 : pm_H} {d : Nat} {x : Int32} (hh0 : HH h0) (hR : RI 0 h0) : Sp (d + 30) 237 h0 [.ref 77, .int x] (TQ h0) := by
  refine Sp_of aiX9_depth rfl rfl rfl ?_
  have L0 : pm_get (lv_args 0 [.ref 77, .int x]) 0 = some (.ref 77) := rfl
  have L1 : pm_get (lv_args 0 [.ref 77, .int x]) 1 = some (.int x) := rfl
  generalize lv_args 0 [.ref 77, .int x] = lv at L0 L1 ⊢
  refine E_al rfl L0 ?_
  refine E_ci 0 rfl ci0 ?_
  refine E_pf rfl hh0 rfl ?_
  have hh1 : HH (pt h0 77 0 (nJ 0)) := HH_ptn hh0 rfl (by omega) (by omega) (by omega)
  have fr1 : fr_g TM h0 (pt h0 77 0 (nJ 0)) := fr_ptr (l := 0) (u := 0) rfl (by omega) (by omega) (fr_rf TM h0)
  refine E_al rfl L0 ?_
  refine E_il rfl L1 ?_
  refine E_i2l rfl ?_
  refine E_call rfl (sp_isCar hh1) (chk77 hh1 rfl rfl (by show 0 ≤ 8; decide)) (fun h2 r2 => ?_)
  rintro ⟨e2, f2⟩
  rw [e2, f2]
  show Ends _ _ (11, lv, [.int (zb (0 ≤ x.toInt ∧ x.toInt ≤ (gn (pt h0 77 0 (nJ 0)) 84 3 : Int) - 1))], (pt h0 77 0 (nJ 0)), 0, 0) _
  by_cases hb3 : 0 ≤ x.toInt ∧ x.toInt ≤ (gn (pt h0 77 0 (nJ 0)) 84 3 : Int) - 1
  · refine E_ifT rfl (by rw [zb_T hb3]; rfl) ?_
    have hC8 : gn (pt h0 77 0 (nJ 0)) 84 3 ≤ 8 := gn_hi hh1 rfl (by decide)
    obtain ⟨k, hk, rfl⟩ := nJ_of2 (n := gn (pt h0 77 0 (nJ 0)) 84 3 - 1) hb3.1 (by have := hb3.2; have := hb3.1; omega)
    have hk2 : k < gn (pt h0 77 0 (nJ 0)) 84 3 := by have h9 := hb3.2; have h8 := hb3.1; rw [nJ_toInt (by omega)] at h9; omega
    refine E_al rfl L0 ?_
    refine E_call rfl (Sp_le (by first | exact Nat.add_le_add_left (Nat.le_of_ble_eq_true rfl) _ | exact Nat.le_of_ble_eq_true rfl | omega) (sp_lays (d := 0) hh1 (RI_fr hR rfl fr1))) (chk77 hh1 rfl rfl (by show 0 ≤ 8; decide)) (fun h4 r4 => ?_)
    rintro ⟨e4, hh4, fq4, wq4⟩
    rw [e4]
    have fr4 : fr_g TM h0 h4 := fr_trans fr1 (fr_wk rfl fq4)
    show Ends _ _ (21, lv, [], h4, 0, 0) _
    refine E_al rfl L0 ?_
    refine E_call rfl (Sp_le (by first | exact Nat.add_le_add_left (Nat.le_of_ble_eq_true rfl) _ | exact Nat.le_of_ble_eq_true rfl | omega) (sp_isLawful (d := 0) hh4)) (chk77 hh4 rfl rfl (by show 0 ≤ 8; decide)) (fun h5 r5 => ?_)
    rintro ⟨e5, f5⟩
    rw [e5]
    rcases f5 with f5 | ⟨f5, lw5⟩
    · rw [f5]
      show Ends _ _ (25, lv, [.int (nJ 0)], h4, 0, 0) _
      refine E_ifF rfl (by decide) ?_
      refine E_c rfl ?_
      exact E_rti rfl ⟨hh4, fr4, _, rfl⟩
    · rw [f5]
      show Ends _ _ (25, lv, [.int (nJ 1)], h4, 0, 0) _
      refine E_ifT rfl (by decide) ?_
      refine E_al rfl L0 ?_
      refine E_call rfl (Sp_le (by first | exact Nat.add_le_add_left (Nat.le_of_ble_eq_true rfl) _ | exact Nat.le_of_ble_eq_true rfl | omega) (sp_laysTree (d := 0) hh4 lw5 wq4)) (chk77 hh4 rfl rfl (by show 0 ≤ 8; decide)) (fun h6 r6 => ?_)
      rintro ⟨e6, hh6, fq6, dq6⟩
      rw [e6]
      have fr6 : fr_g TM h0 h6 := fr_trans fr4 (fr_wk rfl fq6)
      have pe6 : gn h6 84 0 = gn h4 84 3 := by rw [fr_gn fq6 (rg_no rfl _)]; exact lw5.1.symm
      show Ends _ _ (34, lv, [], h6, 0, 0) _
      refine E_ci 0 rfl ci0 ?_
      refine E_is rfl (fun lv7 L7_2 kp7 => ?_)
      have L7_0 := kp7 0 _ (nbz rfl) rfl L0
      have L7_1 := kp7 1 _ (nbz rfl) rfl L1
      refine E_il rfl L7_1 ?_
      refine E_ci 1 rfl ci1 ?_
      refine E_bin rfl (nJ_add _ _) ?_
      refine E_is rfl (fun lv8 L8_3 kp8 => ?_)
      have L8_0 := kp8 0 _ (nbz rfl) rfl L7_0
      have L8_1 := kp8 1 _ (nbz rfl) rfl L7_1
      have L8_2 := kp8 2 _ (nbz rfl) rfl L7_2
      have hdk := (fun v h1 h2 => (dq6 v h1 h2).1) (k + 1) (by omega) (by rw [fr_gn fq4 (rg_no rfl _)]; omega)
      rw [hg_gn] at hdk
      exact dp_loop hh6 fr6 8 lv8 (by omega) hdk L8_0 L8_2 L8_3
  · refine E_ifF rfl (by rw [zb_F hb3]; rfl) ?_
    refine E_c rfl ?_
    exact E_rti rfl ⟨hh1, fr1, _, rfl⟩
theorem lv_loop {h0 : pm_H} {d P : Nat} (hP8 : P ≤ 8) (j : Nat) : ∀ {h : pm_H} {b : Int32} {k : Nat} (lv : List (Nat × Value)), k + j = P + 1 → 1 ≤ k → HH h → fr_g TM h0 h → gn h 84 0 = P → pm_get lv 0 = some (.ref 77) → pm_get lv 1 = some (.int b) → pm_get lv 2 = some (.int (nJ k)) → Ends (pm_at tX9_leaves) (pm_Rt pm_P (d + 29)) (36, lv, [], h, 0, 0) (TQ h0) := by
  induction j with
  | zero =>
    intro h b k lv hj hk hh hfr hP L0 L1 L2
    refine E_il rfl L2 ?_
    refine E_al rfl L0 ?_
    refine E_call rfl (sp_places hh) (chk77 hh rfl rfl (by show 1 ≤ 8; decide)) (fun h1 r1 => ?_)
    rintro ⟨e1, f1, c1⟩
    rw [e1, f1]
    show Ends _ _ (41, lv, [.int (nJ (gn h 84 0)), .int (nJ k)], h, 0, 0) _
    refine E_icT rfl (decide_eq_true ((nJ_lt (by omega) (by omega)).mpr (by omega))) ?_
    refine E_il rfl L1 ?_
    exact E_rti rfl ⟨hh, hfr, _, rfl⟩
  | succ j ih =>
    intro h b k lv hj hk hh hfr hP L0 L1 L2
    refine E_il rfl L2 ?_
    refine E_al rfl L0 ?_
    refine E_call rfl (sp_places hh) (chk77 hh rfl rfl (by show 1 ≤ 8; decide)) (fun h1 r1 => ?_)
    rintro ⟨e1, f1, c1⟩
    rw [e1, f1]
    show Ends _ _ (41, lv, [.int (nJ (gn h 84 0)), .int (nJ k)], h, 0, 0) _
    refine E_icF rfl (decide_eq_false (fun q => absurd ((nJ_lt (by omega) (by omega)).mp q) (by omega))) ?_
    refine E_il rfl L1 ?_
    refine E_al rfl L0 ?_
    refine E_il rfl L2 ?_
    refine E_al rfl L0 ?_
    refine E_call rfl (sp_places hh) (chk77 hh rfl rfl (by show 3 ≤ 8; decide)) (fun h2 r2 => ?_)
    rintro ⟨e2, f2, c2⟩
    rw [e2, f2]
    show Ends _ _ (51, lv, [.int (nJ (gn h 84 0)), .int (nJ k), .ref 77, .int b], h, 0, 0) _
    refine E_call rfl (Sp_le (by first | exact Nat.add_le_add_left (Nat.le_of_ble_eq_true rfl) _ | exact Nat.le_of_ble_eq_true rfl | omega) (Sp_sum (as := [.ref 77, .int (nJ k), .int (nJ ((gn h 84 0)))]) q295 hh ⟨rfl, nJ_in (by omega) (by omega), nJ_in (by omega) (by omega), trivial⟩ (fun _ hq => absurd hq List.not_mem_nil) (fun _ hq => absurd hq List.not_mem_nil))) (chk77 hh rfl rfl (by show 1 ≤ 8; decide)) (fun h3 r3 => ?_)
    rintro ⟨hh3, fq3, C3, hC3, -, -, -, rv3⟩
    obtain ⟨x3, f3⟩ := rv_int295 hC3 rv3
    rw [f3]
    have fr3 : fr_g TM h0 h3 := fr_trans hfr (fr_wk rfl fq3)
    have pe3 : gn h3 84 0 = gn h 84 0 := fr_gn fq3 rfl
    show Ends _ _ (54, lv, [.int x3, .int b], h3, 0, 0) _
    by_cases hb4 : ¬ x3 = 0
    · refine E_ifT rfl (decide_eq_true hb4) ?_
      refine E_ci 0 rfl ci0 ?_
      refine E_bin rfl rfl ?_
      refine E_is rfl (fun lv5 L5_1 kp5 => ?_)
      have L5_0 := kp5 0 _ (nbz rfl) rfl L0
      have L5_2 := kp5 2 _ (nbz rfl) rfl L2
      refine E_inc rfl L5_2 (nJ_inc _) (fun lv6 L6_2 kp6 => ?_)
      have L6_0 := kp6 0 _ (nbz rfl) rfl L5_0
      have L6_1 := kp6 1 _ (nbz rfl) rfl L5_1
      refine E_goto rfl ?_
      exact ih lv6 (by omega) (by omega) hh3 fr3 (by rw [pe3]; exact hP) L6_0 L6_1 L6_2
    · refine E_ifF rfl (decide_eq_false hb4) ?_
      refine E_ci 1 rfl ci1 ?_
      refine E_il rfl L2 ?_
      refine E_ci 1 rfl ci1 ?_
      refine E_bin rfl (nJ_sub (by omega)) ?_
      refine E_bin rfl rfl ?_
      refine E_goto rfl ?_
      refine E_bin rfl rfl ?_
      refine E_is rfl (fun lv7 L7_1 kp7 => ?_)
      have L7_0 := kp7 0 _ (nbz rfl) rfl L0
      have L7_2 := kp7 2 _ (nbz rfl) rfl L2
      refine E_inc rfl L7_2 (nJ_inc _) (fun lv8 L8_2 kp8 => ?_)
      have L8_0 := kp8 0 _ (nbz rfl) rfl L7_0
      have L8_1 := kp8 1 _ (nbz rfl) rfl L7_1
      refine E_goto rfl ?_
      exact ih lv8 (by omega) (by omega) hh3 fr3 (by rw [pe3]; exact hP) L8_0 L8_1 L8_2
theorem tp_leaves {h0 : pm_H} {d : Nat} (hh0 : HH h0) (hR : RI 0 h0) : Sp (d + 30) 300 h0 [.ref 77] (TQ h0) := by
  refine Sp_of aiX9_leaves rfl rfl rfl ?_
  have L0 : pm_get (lv_args 0 [.ref 77]) 0 = some (.ref 77) := rfl
  generalize lv_args 0 [.ref 77] = lv at L0 ⊢
  refine E_al rfl L0 ?_
  refine E_ci 0 rfl ci0 ?_
  refine E_pf rfl hh0 rfl ?_
  have hh1 : HH (pt h0 77 0 (nJ 0)) := HH_ptn hh0 rfl (by omega) (by omega) (by omega)
  have fr1 : fr_g TM h0 (pt h0 77 0 (nJ 0)) := fr_ptr (l := 0) (u := 0) rfl (by omega) (by omega) (fr_rf TM h0)
  refine E_al rfl L0 ?_
  refine E_call rfl (sp_isStreet hh1) (chk77 hh1 rfl rfl (by show 0 ≤ 8; decide)) (fun h2 r2 => ?_)
  rintro ⟨e2, f2⟩
  rw [e2, f2]
  show Ends _ _ (9, lv, [.int (zb (0 < (gi (pt h0 77 0 (nJ 0)) 83 0).toInt))], (pt h0 77 0 (nJ 0)), 0, 0) _
  by_cases hb3 : 0 < (gi (pt h0 77 0 (nJ 0)) 83 0).toInt
  · refine E_ifT rfl (by rw [zb_T hb3]; rfl) ?_
    refine E_al rfl L0 ?_
    refine E_call rfl (Sp_le (by first | exact Nat.add_le_add_left (Nat.le_of_ble_eq_true rfl) _ | exact Nat.le_of_ble_eq_true rfl | omega) (sp_lays (d := 0) hh1 (RI_fr hR rfl fr1))) (chk77 hh1 rfl rfl (by show 0 ≤ 8; decide)) (fun h4 r4 => ?_)
    rintro ⟨e4, hh4, fq4, wq4⟩
    rw [e4]
    have fr4 : fr_g TM h0 h4 := fr_trans fr1 (fr_wk rfl fq4)
    show Ends _ _ (19, lv, [], h4, 0, 0) _
    refine E_al rfl L0 ?_
    refine E_call rfl (Sp_le (by first | exact Nat.add_le_add_left (Nat.le_of_ble_eq_true rfl) _ | exact Nat.le_of_ble_eq_true rfl | omega) (sp_isLawful (d := 0) hh4)) (chk77 hh4 rfl rfl (by show 0 ≤ 8; decide)) (fun h5 r5 => ?_)
    rintro ⟨e5, f5⟩
    rw [e5]
    rcases f5 with f5 | ⟨f5, lw5⟩
    · rw [f5]
      show Ends _ _ (23, lv, [.int (nJ 0)], h4, 0, 0) _
      refine E_ifF rfl (by decide) ?_
      refine E_c rfl ?_
      exact E_rti rfl ⟨hh4, fr4, _, rfl⟩
    · rw [f5]
      show Ends _ _ (23, lv, [.int (nJ 1)], h4, 0, 0) _
      refine E_ifT rfl (by decide) ?_
      refine E_al rfl L0 ?_
      refine E_call rfl (Sp_le (by first | exact Nat.add_le_add_left (Nat.le_of_ble_eq_true rfl) _ | exact Nat.le_of_ble_eq_true rfl | omega) (sp_laysTree (d := 0) hh4 lw5 wq4)) (chk77 hh4 rfl rfl (by show 0 ≤ 8; decide)) (fun h6 r6 => ?_)
      rintro ⟨e6, hh6, fq6, dq6⟩
      rw [e6]
      have fr6 : fr_g TM h0 h6 := fr_trans fr4 (fr_wk rfl fq6)
      have pe6 : gn h6 84 0 = gn h4 84 3 := by rw [fr_gn fq6 (rg_no rfl _)]; exact lw5.1.symm
      show Ends _ _ (32, lv, [], h6, 0, 0) _
      refine E_ci 0 rfl ci0 ?_
      refine E_is rfl (fun lv7 L7_1 kp7 => ?_)
      have L7_0 := kp7 0 _ (nbz rfl) rfl L0
      refine E_ci 1 rfl ci1 ?_
      refine E_is rfl (fun lv8 L8_2 kp8 => ?_)
      have L8_0 := kp8 0 _ (nbz rfl) rfl L7_0
      have L8_1 := kp8 1 _ (nbz rfl) rfl L7_1
      have hP8 : gn h6 84 0 ≤ 8 := gn_hi hh6 rfl (by decide)
      exact lv_loop hP8 (gn h6 84 0) (k := 1) lv8 (by omega) (by omega) hh6 fr6 rfl L8_0 L8_1 L8_2
  · refine E_ifF rfl (by rw [zb_F hb3]; rfl) ?_
    refine E_c rfl ?_
    exact E_rti rfl ⟨hh1, fr1, _, rfl⟩
end
section
/-! by hand: codes in slots (written by gen_t10.py) -/
theorem pI_eq {a P : Nat} (ha : a < 2147483648) (hP : P < 2147483648) : nJ a = pI P ↔ a + 1 = P := by
  cases P with
  | zero =>
    refine ⟨fun q => ?_, fun q => by omega⟩
    have h1 := congrArg Int32.toInt q
    rw [nJ_toInt ha] at h1
    have h2 : (pI 0).toInt = -1 := rfl
    omega
  | succ k =>
    show nJ a = nJ k ↔ _
    rw [nJ_eq ha (by omega)]
    omega
theorem l2i_nJ {x : Int64} (h0 : 0 ≤ x.toInt) (h1 : x.toInt ≤ 8) : x.toInt32 = nJ x.toInt.toNat := by
  apply Int32.toInt_inj.mp
  rw [nJ_toInt (by omega), Int64.toInt_toInt32]
  rw [Int.bmod_eq_of_le (by omega) (by omega)]
  omega
/-- a slot that holds a code -/
noncomputable def CD (h : pm_H) (sl : Nat) : Prop := sl ≤ 3 ∧ gn h 79 sl + 1 = gn h 84 0 ∧ ∀ i, i < gn h 79 sl → 0 ≤ (gl h 80 (60 * sl + i)).toInt ∧ (gl h 80 (60 * sl + i)).toInt ≤ (gn h 84 0 : Int)
theorem fr_gl {M : List Rng} {h h' : pm_H} {a k : Nat} (hf : fr_g M h h') (hM : rg_in M a k = false) : gl h' a k = gl h a k := by
  unfold gl
  rw [hf a k hM]
theorem wc_loop {h : pm_H} {d sl : Nat} {p : Prop} (hh : HH h) (hs : sl ≤ 3) (hm : gn h 79 sl + 1 = gn h 84 0) (hp : p) (j : Nat) : ∀ {i : Nat} (lv : List (Nat × Value)), i + j = gn h 79 sl → (∀ i1, i1 < i → 0 ≤ (gl h 80 (60 * sl + i1)).toInt ∧ (gl h 80 (60 * sl + i1)).toInt ≤ (gn h 84 0 : Int)) → pm_get lv 0 = some (.ref 77) → pm_get lv 1 = some (.int (nJ sl)) → pm_get lv 3 = some (.int (nJ i)) → Ends (pm_at tX9_whyNotCode) (pm_Rt pm_P (d + 3)) (54, lv, [], h, 0, 0) (fun h' r => h' = h ∧ ∃ y : Int32, r = some (.int y) ∧ (y = 0 → ∃ s2, nJ sl = nJ s2 ∧ CD h s2 ∧ p)) := by
  have hP8 : gn h 84 0 ≤ 8 := gn_hi hh rfl (by decide)
  induction j with
  | zero =>
    intro i lv hj hc L0 L1 L3
    refine E_il rfl L3 ?_
    refine E_al rfl L0 ?_
    refine E_gr rfl hh (q := 79) rfl ?_
    refine E_il rfl L1 ?_
    have b1 : gn h 79 sl ≤ 60 := gn_hi hh (bd_u rfl (by omega)) (by decide)
    refine E_ial rfl hh rfl (by omega) (by decide) (gi_gn hh (bd_u rfl (by omega)) (by decide)) ?_
    refine E_icT rfl (decide_eq_true ((nJ_le (by omega) (by omega)).mpr (by omega))) ?_
    refine E_ci 0 rfl ci0 ?_
    exact E_rti rfl ⟨rfl, _, rfl, fun _ => ⟨sl, rfl, ⟨hs, hm, fun i1 h1 => hc i1 (by omega)⟩, hp⟩⟩
  | succ j ih =>
    intro i lv hj hc L0 L1 L3
    refine E_il rfl L3 ?_
    refine E_al rfl L0 ?_
    refine E_gr rfl hh (q := 79) rfl ?_
    refine E_il rfl L1 ?_
    have b1 : gn h 79 sl ≤ 60 := gn_hi hh (bd_u rfl (by omega)) (by decide)
    refine E_ial rfl hh rfl (by omega) (by decide) (gi_gn hh (bd_u rfl (by omega)) (by decide)) ?_
    refine E_icF rfl (decide_eq_false (fun q => absurd ((nJ_le (by omega) (by omega)).mp q) (by omega))) ?_
    refine E_al rfl L0 ?_
    refine E_gr rfl hh (q := 80) rfl ?_
    refine E_ci 60 rfl ci60 ?_
    refine E_il rfl L1 ?_
    refine E_bin rfl (nJ_mul _ _) ?_
    refine E_il rfl L3 ?_
    refine E_bin rfl (nJ_add _ _) ?_
    refine E_lal rfl hh rfl (by omega) (by decide) ?_
    refine E_c rfl ?_
    refine E_al rfl L0 ?_
    refine E_call rfl (sp_places hh) (chk77 hh rfl rfl (by show 4 ≤ 8; decide)) (fun h2 r2 => ?_)
    rintro ⟨e2, f2, c2⟩
    rw [e2, f2]
    show Ends _ _ (80, lv, [.int (nJ (gn h 84 0)), .long (0), .long (gl h 80 (((60 * sl) + i)))], h, 0, 0) _
    refine E_i2l rfl ?_
    refine E_call rfl (sp_in (a := (gl h 80 (((60 * sl) + i))).toInt) (b := 0) (c := ((((gn h 84 0)) : Nat) : Int)) rfl rfl (i2l_nJ (by omega))) (chkS rfl (by show 0 ≤ 8; decide)) (fun h3 r3 => ?_)
    rintro ⟨e3, f3⟩
    rw [e3, f3]
    show Ends _ _ (84, lv, [.int (zb (0 ≤ (gl h 80 (((60 * sl) + i))).toInt ∧ (gl h 80 (((60 * sl) + i))).toInt ≤ ((((gn h 84 0)) : Nat) : Int)))], h, 0, 0) _
    by_cases hb4 : 0 ≤ (gl h 80 (((60 * sl) + i))).toInt ∧ (gl h 80 (((60 * sl) + i))).toInt ≤ ((((gn h 84 0)) : Nat) : Int)
    · refine E_ifT rfl (by rw [zb_T hb4]; rfl) ?_
      refine E_inc rfl L3 (nJ_inc _) (fun lv5 L5_3 kp5 => ?_)
      have L5_0 := kp5 0 _ (nbz rfl) rfl L0
      have L5_1 := kp5 1 _ (nbz rfl) rfl L1
      refine E_goto rfl ?_
      refine ih lv5 (by omega) (fun i1 h1 => ?_) L5_0 L5_1 L5_3
      by_cases e : i1 = i
      · subst e; exact hb4
      · exact hc i1 (by omega)
    · refine E_ifF rfl (by rw [zb_F hb4]; rfl) ?_
      refine E_c rfl ?_
      exact E_rti rfl ⟨rfl, _, rfl, fun q => absurd q (by decide)⟩
end
