section
theorem sp_whyNotCode {h : pm_H} {d : Nat} {x : Int32} {p : Prop} [Decidable p] (hh : HH h) : Sp (d + 4) 373 h [.ref 77, .int x, .int (zb p)] (fun h' r => h' = h ∧ ∃ y : Int32, r = some (.int y) ∧ (y = 0 → ∃ sl, x = nJ sl ∧ CD h sl ∧ p)) := by
  refine Sp_of aiX9_whyNotCode rfl rfl rfl ?_
  have L0 : pm_get (lv_args 0 [.ref 77, .int x, .int (zb p)]) 0 = some (.ref 77) := rfl
  have L1 : pm_get (lv_args 0 [.ref 77, .int x, .int (zb p)]) 1 = some (.int x) := rfl
  have L2 : pm_get (lv_args 0 [.ref 77, .int x, .int (zb p)]) 2 = some (.int (zb p)) := rfl
  generalize lv_args 0 [.ref 77, .int x, .int (zb p)] = lv at L0 L1 L2 ⊢
  refine E_il rfl L1 ?_
  refine E_call rfl sp_isSlot (chkS rfl (by show 0 ≤ 8; decide)) (fun h1 r1 => ?_)
  rintro ⟨e1, f1⟩
  rw [e1, f1]
  show Ends _ _ (4, lv, [.int (zb (0 ≤ x.toInt ∧ x.toInt ≤ 3))], h, 0, 0) _
  by_cases hb2 : ¬ (0 ≤ x.toInt ∧ x.toInt ≤ 3)
  · refine E_ifT rfl (by rw [zb_F hb2]; rfl) ?_
    refine E_c rfl ?_
    exact E_rti rfl ⟨rfl, _, rfl, fun q => absurd q (by decide)⟩
  · refine E_ifF rfl (by rw [zb_T (Classical.not_not.mp hb2)]; rfl) ?_
    have hsl := Classical.not_not.mp hb2
    refine E_al rfl L0 ?_
    refine E_call rfl (sp_isStreet hh) (chk77 hh rfl rfl (by show 0 ≤ 8; decide)) (fun h3 r3 => ?_)
    rintro ⟨e3, f3⟩
    rw [e3, f3]
    show Ends _ _ (11, lv, [.int (zb (0 < (gi h 83 0).toInt))], h, 0, 0) _
    by_cases hb4 : ¬ (0 < (gi h 83 0).toInt)
    · refine E_ifT rfl (by rw [zb_F hb4]; rfl) ?_
      refine E_c rfl ?_
      exact E_rti rfl ⟨rfl, _, rfl, fun q => absurd q (by decide)⟩
    · refine E_ifF rfl (by rw [zb_T (Classical.not_not.mp hb4)]; rfl) ?_
      refine E_il rfl L2 ?_
      by_cases hb5 : p
      · refine E_ifT rfl (by rw [zb_T hb5]; rfl) ?_
        have hp := hb5
        obtain ⟨sl, hs, rfl⟩ := nJ_of2 (n := 3) hsl.1 hsl.2
        refine E_al rfl L0 ?_
        refine E_gr rfl hh (q := 78) rfl ?_
        refine E_il rfl L1 ?_
        refine E_ial rfl hh rfl (by omega) (by decide) (show gi h 78 sl = (gi h 78 sl) from rfl) ?_
        refine E_c rfl ?_
        by_cases hb6 : ¬ gi h 78 sl = -1
        · refine E_icT rfl (decide_eq_true hb6) ?_
          refine E_al rfl L0 ?_
          refine E_gr rfl hh (q := 79) rfl ?_
          refine E_il rfl L1 ?_
          have b7 : gn h 79 sl ≤ 60 := gn_hi hh (bd_u rfl (by omega)) (by decide)
          refine E_ial rfl hh rfl (by omega) (by decide) (gi_gn hh (bd_u rfl (by omega)) (by decide)) ?_
          refine E_al rfl L0 ?_
          refine E_call rfl (sp_places hh) (chk77 hh rfl rfl (by show 1 ≤ 8; decide)) (fun h8 r8 => ?_)
          rintro ⟨e8, f8, c8⟩
          rw [e8, f8]
          show Ends _ _ (44, lv, [.int (nJ (gn h 84 0)), .int (nJ (gn h 79 sl))], h, 0, 0) _
          refine E_ci 1 rfl ci1 ?_
          refine E_bin rfl (pI_of _) ?_
          by_cases hb9 : gn h 79 sl + 1 = gn h 84 0
          · refine E_icT rfl (decide_eq_true ((pI_eq (by omega) (by omega)).mpr hb9)) ?_
            refine E_ci 0 rfl ci0 ?_
            refine E_is rfl (fun lv10 L10_3 kp10 => ?_)
            have L10_0 := kp10 0 _ (nbz rfl) rfl L0
            have L10_1 := kp10 1 _ (nbz rfl) rfl L1
            have L10_2 := kp10 2 _ (nbz rfl) rfl L2
            exact wc_loop hh hs hb9 hp (gn h 79 sl) (i := 0) lv10 (by omega) (fun i1 h1 => absurd h1 (Nat.not_lt_zero _)) L10_0 L10_1 L10_3
          · refine E_icF rfl (decide_eq_false (fun q => hb9 ((pI_eq (by omega) (by omega)).mp q))) ?_
            refine E_c rfl ?_
            exact E_rti rfl ⟨rfl, _, rfl, fun q => absurd q (by decide)⟩
        · refine E_icF rfl (decide_eq_false hb6) ?_
          refine E_c rfl ?_
          exact E_rti rfl ⟨rfl, _, rfl, fun q => absurd q (by decide)⟩
      · refine E_ifF rfl (by rw [zb_F hb5]; rfl) ?_
        refine E_c rfl ?_
        exact E_rti rfl ⟨rfl, _, rfl, fun q => absurd q (by decide)⟩
noncomputable def SM : List Rng := [(92, 0, 8), (94, 0, 8), (95, 0, 7), (96, 0, 17)]
noncomputable def SQ (h0 h' : pm_H) (r : Option Value) : Prop := r = none ∧ HH h' ∧ fr_g SM h0 h' ∧ ∀ v, 1 ≤ v → v ≤ gn h0 84 0 → dep (hg h') 8 v ∧ gn h' 92 v ≤ gn h0 84 0
theorem ls_loop {h0 : pm_H} {d sl : Nat} (hh0 : HH h0) (hCD : CD h0 sl) (j : Nat) : ∀ {h : pm_H} {i : Nat} (lv : List (Nat × Value)), i + j = gn h0 79 sl → HH h → fr_g SM h0 h → (∀ i1, i1 < i → gn h 95 i1 ≤ gn h0 84 0) → pm_get lv 0 = some (.ref 77) → pm_get lv 1 = some (.int (nJ sl)) → pm_get lv 2 = some (.int (nJ i)) → Ends (pm_at tX9_laysSlot) (pm_Rt pm_P (d + 3)) (2, lv, [], h, 0, 0) (SQ h0) := by
  have hP8 : gn h0 84 0 ≤ 8 := gn_hi hh0 rfl (by decide)
  have hs := hCD.1
  have hmP := hCD.2.1
  induction j with
  | zero =>
    intro h i lv hj hh hfr hc L0 L1 L2
    have hpe : gn h 84 0 = gn h0 84 0 := fr_gn hfr (rg_no rfl _)
    refine E_il rfl L2 ?_
    refine E_al rfl L0 ?_
    refine E_gr rfl hh (q := 79) rfl ?_
    refine E_il rfl L1 ?_
    refine E_ial rfl hh rfl (by omega) (by decide) (show gi h 79 sl = nJ ((gn h0 79 sl)) from by rw [fr_gi hfr (rg_no rfl _)]; exact gi_gn hh0 (bd_u rfl (by omega)) (by decide)) ?_
    refine E_icT rfl (decide_eq_true ((nJ_le (by omega) (by omega)).mpr (by omega))) ?_
    refine E_al rfl L0 ?_
    refine E_al rfl L0 ?_
    refine E_call rfl (sp_places hh) (chk77 hh rfl rfl (by show 1 ≤ 8; decide)) (fun h1 r1 => ?_)
    rintro ⟨e1, f1, c1⟩
    rw [e1, f1]
    show Ends _ _ (41, lv, [.int (nJ (gn h 84 0)), .ref 77], h, 0, 0) _
    refine E_ci 1 rfl ci1 ?_
    refine E_bin rfl (nJ_add _ _) ?_
    refine E_call rfl (sp_reads0 (N := gn h 84 0 + 1) hh (by omega) (by omega) (fun j hj => by have := hc j (by omega); omega)) (chk77 hh rfl rfl (by show 0 ≤ 8; decide)) (fun h9 r9 => ?_)
    rintro ⟨e9, hh9, fr9, q9⟩
    rw [e9]
    show Ends _ _ (46, lv, [], h9, 0, 0) _
    exact E_ret rfl ⟨rfl, hh9, fr_trans hfr (fr_wk rfl fr9), fun v h1 h2 => by have := q9 v h1 (by omega); exact ⟨this.1, by omega⟩⟩
  | succ j ih =>
    intro h i lv hj hh hfr hc L0 L1 L2
    have hpe : gn h 84 0 = gn h0 84 0 := fr_gn hfr (rg_no rfl _)
    refine E_il rfl L2 ?_
    refine E_al rfl L0 ?_
    refine E_gr rfl hh (q := 79) rfl ?_
    refine E_il rfl L1 ?_
    refine E_ial rfl hh rfl (by omega) (by decide) (show gi h 79 sl = nJ ((gn h0 79 sl)) from by rw [fr_gi hfr (rg_no rfl _)]; exact gi_gn hh0 (bd_u rfl (by omega)) (by decide)) ?_
    refine E_icF rfl (decide_eq_false (fun q => absurd ((nJ_le (by omega) (by omega)).mp q) (by omega))) ?_
    have hci := hCD.2.2 i (by omega)
    have hgl : gl h 80 (60 * sl + i) = gl h0 80 (60 * sl + i) := fr_gl hfr (rg_no rfl _)
    refine E_al rfl L0 ?_
    refine E_gr rfl hh (q := 95) rfl ?_
    refine E_il rfl L2 ?_
    refine E_al rfl L0 ?_
    refine E_gr rfl hh (q := 80) rfl ?_
    refine E_ci 60 rfl ci60 ?_
    refine E_il rfl L1 ?_
    refine E_bin rfl (nJ_mul _ _) ?_
    refine E_il rfl L2 ?_
    refine E_bin rfl (nJ_add _ _) ?_
    refine E_lal rfl hh rfl (by omega) (by decide) ?_
    refine E_l2i rfl (show (gl h 80 (((60 * sl) + i))).toInt32 = nJ (gl h0 80 (60 * sl + i)).toInt.toNat from (by rw [hgl]; exact l2i_nJ hci.1 (by omega))) ?_
    refine E_ias rfl hh rfl (by omega) (by decide) ?_
    have hh1 : HH (pt h 95 i (nJ ((gl h0 80 (60 * sl + i)).toInt.toNat))) := HH_ptn hh (bd_u rfl (by omega)) (by omega) (by omega) (by omega)
    refine E_inc rfl L2 (nJ_inc _) (fun lv2 L2_2 kp2 => ?_)
    have L2_0 := kp2 0 _ (nbz rfl) rfl L0
    have L2_1 := kp2 1 _ (nbz rfl) rfl L1
    refine E_goto rfl ?_
    refine ih lv2 (by omega) hh1 (fr_ptr (l := 0) (u := 7) rfl (by omega) (by omega) hfr) (fun i1 h1 => ?_) L2_0 L2_1 L2_2
    by_cases e : i1 = i
    · rw [e, gn_ptn hh (bd_u rfl (by omega)) (by omega) (by omega) (by omega)]; omega
    · rw [gn_ne (fun _ => e)]; exact hc i1 (by omega)
theorem sp_laysSlot {h0 : pm_H} {d sl : Nat} (hh : HH h0) (hCD : CD h0 sl) : Sp (d + 4) 298 h0 [.ref 77, .int (nJ sl)] (SQ h0) := by
  refine Sp_of aiX9_laysSlot rfl rfl rfl ?_
  refine E_ci 0 rfl ci0 ?_
  refine E_is rfl (fun lv1 L1_2 kp1 => ?_)
  have L1_0 := kp1 0 _ (nbz rfl) rfl (show pm_get (lv_args 0 [.ref 77, .int (nJ sl)]) 0 = _ from rfl)
  have L1_1 := kp1 1 _ (nbz rfl) rfl (show pm_get (lv_args 0 [.ref 77, .int (nJ sl)]) 1 = _ from rfl)
  exact ls_loop hh hCD (gn h0 79 sl) (i := 0) lv1 (by omega) hh (fr_rf _ _) (fun i1 h1 => absurd h1 (Nat.not_lt_zero _)) L1_0 L1_1 L1_2
theorem tp_above {h0 : pm_H} {d : Nat} {x y : Int32} (hh0 : HH h0) (hR : RI 0 h0) : Sp (d + 30) 204 h0 [.ref 77, .int x, .int y] (TQ h0) := by
  refine Sp_of aiX9_above rfl rfl rfl ?_
  have L0 : pm_get (lv_args 0 [.ref 77, .int x, .int y]) 0 = some (.ref 77) := rfl
  have L1 : pm_get (lv_args 0 [.ref 77, .int x, .int y]) 1 = some (.int x) := rfl
  have L2 : pm_get (lv_args 0 [.ref 77, .int x, .int y]) 2 = some (.int y) := rfl
  generalize lv_args 0 [.ref 77, .int x, .int y] = lv at L0 L1 L2 ⊢
  refine E_al rfl L0 ?_
  refine E_ci 0 rfl ci0 ?_
  refine E_pf rfl hh0 rfl ?_
  have hh1 : HH (pt h0 77 0 (nJ 0)) := HH_ptn hh0 rfl (by omega) (by omega) (by omega)
  have fr1 : fr_g TM h0 (pt h0 77 0 (nJ 0)) := fr_ptr (l := 0) (u := 0) rfl (by omega) (by omega) (fr_rf TM h0)
  refine E_al rfl L0 ?_
  refine E_il rfl L1 ?_
  refine E_il rfl L2 ?_
  refine E_i2l rfl ?_
  refine E_c rfl ?_
  refine E_al rfl L0 ?_
  refine E_call rfl (sp_places hh1) (chk77 hh1 rfl rfl (by show 6 ≤ 8; decide)) (fun h2 r2 => ?_)
  rintro ⟨e2, f2, c2⟩
  rw [e2, f2]
  show Ends _ _ (14, lv, [.int (nJ (gn (pt h0 77 0 (nJ 0)) 84 0)), .long (0), .long (y).toInt64, .int x, .ref 77], (pt h0 77 0 (nJ 0)), 0, 0) _
  refine E_i2l rfl ?_
  refine E_c rfl ?_
  refine E_lbin rfl ?_
  refine E_call rfl (sp_in (a := y.toInt) (b := 0) (c := (((((gn (pt h0 77 0 (nJ 0)) 84 0)) : Nat) : Int) - 1)) (i2l_toInt _) rfl (i2l_sub1 (by omega))) (chkS rfl (by show 2 ≤ 8; decide)) (fun h3 r3 => ?_)
  rintro ⟨e3, f3⟩
  rw [e3, f3]
  show Ends _ _ (20, lv, [.int (zb (0 ≤ y.toInt ∧ y.toInt ≤ (((((gn (pt h0 77 0 (nJ 0)) 84 0)) : Nat) : Int) - 1))), .int x, .ref 77], (pt h0 77 0 (nJ 0)), 0, 0) _
  refine E_call rfl (Sp_le (by first | exact Nat.add_le_add_left (Nat.le_of_ble_eq_true rfl) _ | exact Nat.le_of_ble_eq_true rfl | omega) (sp_whyNotCode (d := 0) (p := 0 ≤ y.toInt ∧ y.toInt ≤ (((((gn (pt h0 77 0 (nJ 0)) 84 0)) : Nat) : Int) - 1)) hh1)) (chk77 hh1 rfl rfl (by show 0 ≤ 8; decide)) (fun h4 r4 => ?_)
  rintro ⟨e4, y4, f4, g4⟩
  rw [e4, f4]
  show Ends _ _ (23, lv, [.int y4], (pt h0 77 0 (nJ 0)), 0, 0) _
  refine E_is rfl (fun lv5 L5_3 kp5 => ?_)
  have L5_0 := kp5 0 _ (nbz rfl) rfl L0
  have L5_1 := kp5 1 _ (nbz rfl) rfl L1
  have L5_2 := kp5 2 _ (nbz rfl) rfl L2
  refine E_il rfl L5_3 ?_
  by_cases hb6 : y4 = 0
  · refine E_ifT rfl (decide_eq_true hb6) ?_
    obtain ⟨sl, rfl, hCD, hpp⟩ := g4 hb6
    have hP8 : gn (pt h0 77 0 (nJ 0)) 84 0 ≤ 8 := gn_hi hh1 rfl (by decide)
    obtain ⟨k, hk, rfl⟩ := nJ_of2 (n := gn (pt h0 77 0 (nJ 0)) 84 0 - 1) hpp.1 (by have h9 := hpp.2; have h8 := hpp.1; have h7 := hCD.2.1; omega)
    have hk2 : k < gn (pt h0 77 0 (nJ 0)) 84 0 := by have h7 := hCD.2.1; omega
    refine E_al rfl L5_0 ?_
    refine E_il rfl L5_1 ?_
    refine E_call rfl (Sp_le (by first | exact Nat.add_le_add_left (Nat.le_of_ble_eq_true rfl) _ | exact Nat.le_of_ble_eq_true rfl | omega) (sp_laysSlot (d := 0) hh1 hCD)) (chk77 hh1 rfl rfl (by show 0 ≤ 8; decide)) (fun h7 r7 => ?_)
    rintro ⟨e7, hh7, fq7, dq7⟩
    rw [e7]
    have fr7 : fr_g TM h0 h7 := fr_trans fr1 (fr_wk rfl fq7)
    have pe7 : gn h7 84 0 = gn (pt h0 77 0 (nJ 0)) 84 0 := fr_gn fq7 (rg_no rfl _)
    show Ends _ _ (35, lv5, [], h7, 0, 0) _
    refine E_al rfl L5_0 ?_
    refine E_gr rfl hh7 (q := 92) rfl ?_
    refine E_il rfl L5_2 ?_
    refine E_ci 1 rfl ci1 ?_
    refine E_bin rfl (nJ_add _ _) ?_
    have b8 : gn h7 92 ((k + 1)) ≤ 8 := gn_hi hh7 (bd_u rfl (by omega)) (by decide)
    refine E_ial rfl hh7 rfl (by omega) (by decide) (gi_gn hh7 (bd_u rfl (by omega)) (by decide)) ?_
    exact E_rti rfl ⟨hh7, fr7, _, rfl⟩
  · refine E_ifF rfl (decide_eq_false hb6) ?_
    refine E_il rfl L5_3 ?_
    exact E_rti rfl ⟨hh1, fr1, _, rfl⟩
theorem tp_upset {h0 : pm_H} {d : Nat} {x : Int32} (hh0 : HH h0) (hR : RI 0 h0) : Sp (d + 30) 367 h0 [.ref 77, .int x] (TQ h0) := by
  refine Sp_of aiX9_upset rfl rfl rfl ?_
  have L0 : pm_get (lv_args 0 [.ref 77, .int x]) 0 = some (.ref 77) := rfl
  have L1 : pm_get (lv_args 0 [.ref 77, .int x]) 1 = some (.int x) := rfl
  generalize lv_args 0 [.ref 77, .int x] = lv at L0 L1 ⊢
  refine E_al rfl L0 ?_
  refine E_ci 0 rfl ci0 ?_
  refine E_pf rfl hh0 rfl ?_
  have hh1 : HH (pt h0 77 0 (nJ 0)) := HH_ptn hh0 rfl (by omega) (by omega) (by omega)
  have fr1 : fr_g TM h0 (pt h0 77 0 (nJ 0)) := fr_ptr (l := 0) (u := 0) rfl (by omega) (by omega) (fr_rf TM h0)
  refine E_al rfl L0 ?_
  refine E_il rfl L1 ?_
  refine E_ci 1 rfl ci1 ?_
  refine E_call rfl (Sp_le (by first | exact Nat.add_le_add_left (Nat.le_of_ble_eq_true rfl) _ | exact Nat.le_of_ble_eq_true rfl | omega) (sp_whyNotCode (d := 0) (p := True) hh1)) (chk77 hh1 rfl rfl (by show 0 ≤ 8; decide)) (fun h2 r2 => ?_)
  rintro ⟨e2, y2, f2, g2⟩
  rw [e2, f2]
  show Ends _ _ (11, lv, [.int y2], (pt h0 77 0 (nJ 0)), 0, 0) _
  refine E_is rfl (fun lv3 L3_2 kp3 => ?_)
  have L3_0 := kp3 0 _ (nbz rfl) rfl L0
  have L3_1 := kp3 1 _ (nbz rfl) rfl L1
  refine E_il rfl L3_2 ?_
  by_cases hb4 : y2 = 0
  · refine E_ifT rfl (decide_eq_true hb4) ?_
    obtain ⟨sl, rfl, hCD, hpp⟩ := g2 hb4
    have hP8 : gn (pt h0 77 0 (nJ 0)) 84 0 ≤ 8 := gn_hi hh1 rfl (by decide)
    refine E_al rfl L3_0 ?_
    refine E_il rfl L3_1 ?_
    refine E_call rfl (Sp_le (by first | exact Nat.add_le_add_left (Nat.le_of_ble_eq_true rfl) _ | exact Nat.le_of_ble_eq_true rfl | omega) (sp_laysSlot (d := 0) hh1 hCD)) (chk77 hh1 rfl rfl (by show 0 ≤ 8; decide)) (fun h5 r5 => ?_)
    rintro ⟨e5, hh5, fq5, dq5⟩
    rw [e5]
    have fr5 : fr_g TM h0 h5 := fr_trans fr1 (fr_wk rfl fq5)
    have pe5 : gn h5 84 0 = gn (pt h0 77 0 (nJ 0)) 84 0 := fr_gn fq5 (rg_no rfl _)
    show Ends _ _ (23, lv3, [], h5, 0, 0) _
    refine E_al rfl L3_0 ?_
    refine E_al rfl L3_0 ?_
    refine E_call rfl (sp_places hh5) (chk77 hh5 rfl rfl (by show 1 ≤ 8; decide)) (fun h6 r6 => ?_)
    rintro ⟨e6, f6, c6⟩
    rw [e6, f6]
    show Ends _ _ (28, lv3, [.int (nJ (gn h5 84 0)), .ref 77], h5, 0, 0) _
    refine E_call rfl (Sp_le (by first | exact Nat.add_le_add_left (Nat.le_of_ble_eq_true rfl) _ | exact Nat.le_of_ble_eq_true rfl | omega) (sp_turnedIn (d := 0) hh5 (by omega) (fun v h1 h2 => (fun v h1 h2 => (dq5 v h1 h2).1) v h1 (by omega)))) (chk77 hh5 rfl rfl (by show 0 ≤ 8; decide)) (fun h7 r7 => ?_)
    rintro ⟨e7, x7, f7⟩
    rw [e7, f7]
    show Ends _ _ (31, lv3, [.int x7], h5, 0, 0) _
    exact E_rti rfl ⟨hh5, fr5, _, rfl⟩
  · refine E_ifF rfl (decide_eq_false hb4) ?_
    refine E_il rfl L3_2 ?_
    exact E_rti rfl ⟨hh1, fr1, _, rfl⟩
theorem rg_loop {h0 : pm_H} {d P k : Nat} (hP8 : P ≤ 8) (hk : k < P) (j : Nat) : ∀ {h : pm_H} {i : Nat} (lv : List (Nat × Value)), i + j = P → HH h → fr_g TM h0 h → gn h 84 0 = P → pm_get lv 0 = some (.ref 77) → pm_get lv 2 = some (.int (nJ k)) → pm_get lv 4 = some (.int (nJ i)) → Ends (pm_at tX9_regain) (pm_Rt pm_P (d + 29)) (38, lv, [], h, 0, 0) (TQ h0) := by
  induction j with
  | zero =>
    intro h i lv hj hh hfr hP L0 L2 L4
    refine E_il rfl L4 ?_
    refine E_al rfl L0 ?_
    refine E_call rfl (sp_places hh) (chk77 hh rfl rfl (by show 1 ≤ 8; decide)) (fun h1 r1 => ?_)
    rintro ⟨e1, f1, c1⟩
    rw [e1, f1]
    show Ends _ _ (44, lv, [.int (nJ (gn h 84 0)), .int (nJ i)], h, 0, 0) _
    refine E_icT rfl (decide_eq_true ((nJ_le (by omega) (by omega)).mpr (by omega))) ?_
    refine E_al rfl L0 ?_
    refine E_ci 0 rfl ci0 ?_
    refine E_pf rfl hh rfl ?_
    have hh2 : HH (pt h 77 35 (nJ 0)) := HH_ptn hh rfl (by omega) (by omega) (by omega)
    have fr2 : fr_g TM h0 (pt h 77 35 (nJ 0)) := fr_ptr (l := 35) (u := 35) rfl (by omega) (by omega) hfr
    refine E_al rfl L0 ?_
    refine E_ci 0 rfl ci0 ?_
    refine E_call rfl (Sp_le (by first | exact Nat.add_le_add_left (Nat.le_of_ble_eq_true rfl) _ | exact Nat.le_of_ble_eq_true rfl | omega) (sp_counts0 (P := gn (pt h 77 35 (nJ 0)) 84 0) (by rw [gn_ne (by first | exact gxx rfl | omega)]; omega) 8 _ 0 0 hh2 rfl (gi_pt hh rfl (ai_lo _) (ai_hi _)) (by omega) (by rw [gn_ne (by first | exact gxx rfl | omega)]; omega) (by omega))) (chk77 hh2 rfl rfl (by show 0 ≤ 8; decide)) (fun h3 r3 => ?_)
    rintro ⟨e3, hh3, fq3, -⟩
    rw [e3]
    have fr3 : fr_g TM h0 h3 := fr_trans fr2 (fr_wk rfl fq3)
    show Ends _ _ (71, lv, [], h3, 0, 0) _
    refine E_al rfl L0 ?_
    refine E_gr rfl hh3 (q := 97) rfl ?_
    refine E_il rfl L2 ?_
    refine E_ial rfl hh3 rfl (by omega) (by decide) (show gi h3 97 k = (gi h3 97 k) from rfl) ?_
    refine E_ci 1 rfl ci1 ?_
    refine E_bin rfl rfl ?_
    exact E_rti rfl ⟨hh3, fr3, _, rfl⟩
  | succ j ih =>
    intro h i lv hj hh hfr hP L0 L2 L4
    refine E_il rfl L4 ?_
    refine E_al rfl L0 ?_
    refine E_call rfl (sp_places hh) (chk77 hh rfl rfl (by show 1 ≤ 8; decide)) (fun h1 r1 => ?_)
    rintro ⟨e1, f1, c1⟩
    rw [e1, f1]
    show Ends _ _ (44, lv, [.int (nJ (gn h 84 0)), .int (nJ i)], h, 0, 0) _
    refine E_icF rfl (decide_eq_false (fun q => absurd ((nJ_le (by omega) (by omega)).mp q) (by omega))) ?_
    refine E_al rfl L0 ?_
    refine E_gr rfl hh (q := 97) rfl ?_
    refine E_il rfl L4 ?_
    refine E_ci 0 rfl ci0 ?_
    refine E_ias rfl hh rfl (by omega) (by decide) ?_
    have hh2 : HH (pt h 97 i (nJ 0)) := HH_ptn hh (bd_u rfl (by omega)) (by omega) (by omega) (by omega)
    have fr2 : fr_g TM h0 (pt h 97 i (nJ 0)) := fr_ptr (l := 0) (u := 7) rfl (by omega) (by omega) hfr
    refine E_inc rfl L4 (nJ_inc _) (fun lv3 L3_4 kp3 => ?_)
    have L3_0 := kp3 0 _ (nbz rfl) rfl L0
    have L3_2 := kp3 2 _ (nbz rfl) rfl L2
    refine E_goto rfl ?_
    exact ih lv3 (by omega) hh2 fr2 (by rw [gn_ne (by first | exact gxx rfl | omega)]; exact hP) L3_0 L3_2 L3_4
theorem tp_regain {h0 : pm_H} {d : Nat} {x y : Int32} (hh0 : HH h0) (hR : RI 0 h0) : Sp (d + 30) 331 h0 [.ref 77, .int x, .int y] (TQ h0) := by
  refine Sp_of aiX9_regain rfl rfl rfl ?_
  have L0 : pm_get (lv_args 0 [.ref 77, .int x, .int y]) 0 = some (.ref 77) := rfl
  have L1 : pm_get (lv_args 0 [.ref 77, .int x, .int y]) 1 = some (.int x) := rfl
  have L2 : pm_get (lv_args 0 [.ref 77, .int x, .int y]) 2 = some (.int y) := rfl
  generalize lv_args 0 [.ref 77, .int x, .int y] = lv at L0 L1 L2 ⊢
  refine E_al rfl L0 ?_
  refine E_ci 0 rfl ci0 ?_
  refine E_pf rfl hh0 rfl ?_
  have hh1 : HH (pt h0 77 0 (nJ 0)) := HH_ptn hh0 rfl (by omega) (by omega) (by omega)
  have fr1 : fr_g TM h0 (pt h0 77 0 (nJ 0)) := fr_ptr (l := 0) (u := 0) rfl (by omega) (by omega) (fr_rf TM h0)
  refine E_al rfl L0 ?_
  refine E_il rfl L1 ?_
  refine E_il rfl L2 ?_
  refine E_i2l rfl ?_
  refine E_c rfl ?_
  refine E_al rfl L0 ?_
  refine E_call rfl (sp_places hh1) (chk77 hh1 rfl rfl (by show 6 ≤ 8; decide)) (fun h2 r2 => ?_)
  rintro ⟨e2, f2, c2⟩
  rw [e2, f2]
  show Ends _ _ (14, lv, [.int (nJ (gn (pt h0 77 0 (nJ 0)) 84 0)), .long (0), .long (y).toInt64, .int x, .ref 77], (pt h0 77 0 (nJ 0)), 0, 0) _
  refine E_i2l rfl ?_
  refine E_c rfl ?_
  refine E_lbin rfl ?_
  refine E_call rfl (sp_in (a := y.toInt) (b := 0) (c := (((((gn (pt h0 77 0 (nJ 0)) 84 0)) : Nat) : Int) - 1)) (i2l_toInt _) rfl (i2l_sub1 (by omega))) (chkS rfl (by show 2 ≤ 8; decide)) (fun h3 r3 => ?_)
  rintro ⟨e3, f3⟩
  rw [e3, f3]
  show Ends _ _ (20, lv, [.int (zb (0 ≤ y.toInt ∧ y.toInt ≤ (((((gn (pt h0 77 0 (nJ 0)) 84 0)) : Nat) : Int) - 1))), .int x, .ref 77], (pt h0 77 0 (nJ 0)), 0, 0) _
  refine E_call rfl (Sp_le (by first | exact Nat.add_le_add_left (Nat.le_of_ble_eq_true rfl) _ | exact Nat.le_of_ble_eq_true rfl | omega) (sp_whyNotCode (d := 0) (p := 0 ≤ y.toInt ∧ y.toInt ≤ (((((gn (pt h0 77 0 (nJ 0)) 84 0)) : Nat) : Int) - 1)) hh1)) (chk77 hh1 rfl rfl (by show 0 ≤ 8; decide)) (fun h4 r4 => ?_)
  rintro ⟨e4, y4, f4, g4⟩
  rw [e4, f4]
  show Ends _ _ (23, lv, [.int y4], (pt h0 77 0 (nJ 0)), 0, 0) _
  refine E_is rfl (fun lv5 L5_3 kp5 => ?_)
  have L5_0 := kp5 0 _ (nbz rfl) rfl L0
  have L5_1 := kp5 1 _ (nbz rfl) rfl L1
  have L5_2 := kp5 2 _ (nbz rfl) rfl L2
  refine E_il rfl L5_3 ?_
  by_cases hb6 : y4 = 0
  · refine E_ifT rfl (decide_eq_true hb6) ?_
    obtain ⟨sl, rfl, hCD, hpp⟩ := g4 hb6
    have hP8 : gn (pt h0 77 0 (nJ 0)) 84 0 ≤ 8 := gn_hi hh1 rfl (by decide)
    obtain ⟨k, hk, rfl⟩ := nJ_of2 (n := gn (pt h0 77 0 (nJ 0)) 84 0 - 1) hpp.1 (by have h9 := hpp.2; have h8 := hpp.1; have h7 := hCD.2.1; omega)
    have hk2 : k < gn (pt h0 77 0 (nJ 0)) 84 0 := by have h7 := hCD.2.1; omega
    refine E_al rfl L5_0 ?_
    refine E_il rfl L5_1 ?_
    refine E_call rfl (Sp_le (by first | exact Nat.add_le_add_left (Nat.le_of_ble_eq_true rfl) _ | exact Nat.le_of_ble_eq_true rfl | omega) (sp_laysSlot (d := 0) hh1 hCD)) (chk77 hh1 rfl rfl (by show 0 ≤ 8; decide)) (fun h7 r7 => ?_)
    rintro ⟨e7, hh7, fq7, dq7⟩
    rw [e7]
    have fr7 : fr_g TM h0 h7 := fr_trans fr1 (fr_wk rfl fq7)
    have pe7 : gn h7 84 0 = gn (pt h0 77 0 (nJ 0)) 84 0 := fr_gn fq7 (rg_no rfl _)
    show Ends _ _ (35, lv5, [], h7, 0, 0) _
    refine E_ci 0 rfl ci0 ?_
    refine E_is rfl (fun lv8 L8_4 kp8 => ?_)
    have L8_0 := kp8 0 _ (nbz rfl) rfl L5_0
    have L8_1 := kp8 1 _ (nbz rfl) rfl L5_1
    have L8_2 := kp8 2 _ (nbz rfl) rfl L5_2
    have L8_3 := kp8 3 _ (nbz rfl) rfl L5_3
    exact rg_loop (P := gn h7 84 0) (by omega) (by omega) (gn h7 84 0) (i := 0) lv8 (by omega) hh7 fr7 rfl L8_0 L8_2 L8_4
  · refine E_ifF rfl (decide_eq_false hb6) ?_
    refine E_il rfl L5_3 ?_
    exact E_rti rfl ⟨hh1, fr1, _, rfl⟩
end
section
/-! by hand: wish, trees (written by gen_t11.py) -/
end
