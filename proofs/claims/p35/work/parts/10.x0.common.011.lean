section
theorem tr_out {h0 : pm_H} {d n A : Nat} {y : Int32} (hn1 : 1 ≤ n) (hn5 : n ≤ 5) (hA : A ≤ 7776) (j : Nat) : ∀ {h : pm_H} {so : Int32} {x : Nat} (lv : List (Nat × Value)), x + j = A → HH h → fr_g TM h0 h → pm_get lv 0 = some (.ref 77) → pm_get lv 1 = some (.int (nJ n)) → pm_get lv 2 = some (.int y) → pm_get lv 3 = some (.int (nJ A)) → pm_get lv 4 = some (.int so) → pm_get lv 5 = some (.int (nJ x)) → Ends (pm_at tX9_trees) (pm_Rt pm_P (d + 29)) (59, lv, [], h, 0, 0) (TQ h0) := by
  induction j with
  | zero =>
    intro h so x lv hj hh hfr L0 L1 L2 L3 L4 L5
    refine E_il rfl L5 ?_
    refine E_il rfl L3 ?_
    refine E_icT rfl (decide_eq_true ((nJ_le (by omega) (by omega)).mpr (by omega))) ?_
    refine E_il rfl L4 ?_
    exact E_rti rfl ⟨hh, hfr, _, rfl⟩
  | succ j ih =>
    intro h so x lv hj hh hfr L0 L1 L2 L3 L4 L5
    refine E_il rfl L5 ?_
    refine E_il rfl L3 ?_
    refine E_icF rfl (decide_eq_false (fun q => absurd ((nJ_le (by omega) (by omega)).mp q) (by omega))) ?_
    refine E_il rfl L5 ?_
    refine E_is rfl (fun lv1 L1_6 kp1 => ?_)
    have L1_0 := kp1 0 _ (nbz rfl) rfl L0
    have L1_1 := kp1 1 _ (nbz rfl) rfl L1
    have L1_2 := kp1 2 _ (nbz rfl) rfl L2
    have L1_3 := kp1 3 _ (nbz rfl) rfl L3
    have L1_4 := kp1 4 _ (nbz rfl) rfl L4
    have L1_5 := kp1 5 _ (nbz rfl) rfl L5
    refine E_ci 0 rfl ci0 ?_
    refine E_is rfl (fun lv2 L2_7 kp2 => ?_)
    have L2_0 := kp2 0 _ (nbz rfl) rfl L1_0
    have L2_1 := kp2 1 _ (nbz rfl) rfl L1_1
    have L2_2 := kp2 2 _ (nbz rfl) rfl L1_2
    have L2_3 := kp2 3 _ (nbz rfl) rfl L1_3
    have L2_4 := kp2 4 _ (nbz rfl) rfl L1_4
    have L2_5 := kp2 5 _ (nbz rfl) rfl L1_5
    have L2_6 := kp2 6 _ (nbz rfl) rfl L1_6
    exact tr_in hn1 hn5 hA (by omega) (fun lv' a b c e f g i k => ih lv' (by omega) a b c e f g i k) (n - 1) (i := 0) lv2 (by omega) (by omega) hh hfr (fun i1 h1 => absurd h1 (Nat.not_lt_zero _)) L2_0 L2_1 L2_2 L2_3 L2_4 L2_5 L2_6 L2_7
theorem tr_all {h0 h : pm_H} {d n : Nat} {y : Int32} (hn1 : 1 ≤ n) (hn5 : n ≤ 5) (hh : HH h) (hfr : fr_g TM h0 h) (j : Nat) : ∀ {A i : Nat} (lv : List (Nat × Value)), i + j = n - 1 → A ≤ 6 ^ i → pm_get lv 0 = some (.ref 77) → pm_get lv 1 = some (.int (nJ n)) → pm_get lv 2 = some (.int y) → pm_get lv 3 = some (.int (nJ A)) → pm_get lv 4 = some (.int (nJ i)) → Ends (pm_at tX9_trees) (pm_Rt pm_P (d + 29)) (33, lv, [], h, 0, 0) (TQ h0) := by
  induction j with
  | zero =>
    intro A i lv hj hA L0 L1 L2 L3 L4
    have hA : A ≤ 7776 := Nat.le_trans hA (Nat.pow_le_pow_right (by omega) (show i ≤ 5 by omega))
    refine E_il rfl L4 ?_
    refine E_il rfl L1 ?_
    refine E_ci 1 rfl ci1 ?_
    refine E_bin rfl (nJ_sub (by omega)) ?_
    refine E_icT rfl (decide_eq_true ((nJ_le (by omega) (by omega)).mpr (by omega))) ?_
    refine E_ci 0 rfl ci0 ?_
    refine E_is rfl (fun lv1 L1_4 kp1 => ?_)
    have L1_0 := kp1 0 _ (nbz rfl) rfl L0
    have L1_1 := kp1 1 _ (nbz rfl) rfl L1
    have L1_2 := kp1 2 _ (nbz rfl) rfl L2
    have L1_3 := kp1 3 _ (nbz rfl) rfl L3
    refine E_ci 0 rfl ci0 ?_
    refine E_is rfl (fun lv2 L2_5 kp2 => ?_)
    have L2_0 := kp2 0 _ (nbz rfl) rfl L1_0
    have L2_1 := kp2 1 _ (nbz rfl) rfl L1_1
    have L2_2 := kp2 2 _ (nbz rfl) rfl L1_2
    have L2_3 := kp2 3 _ (nbz rfl) rfl L1_3
    have L2_4 := kp2 4 _ (nbz rfl) rfl L1_4
    exact tr_out hn1 hn5 (by omega) A (x := 0) lv2 (by omega) hh hfr L2_0 L2_1 L2_2 L2_3 L2_4 L2_5
  | succ j ih =>
    intro A i lv hj hA L0 L1 L2 L3 L4
    refine E_il rfl L4 ?_
    refine E_il rfl L1 ?_
    refine E_ci 1 rfl ci1 ?_
    refine E_bin rfl (nJ_sub (by omega)) ?_
    refine E_icF rfl (decide_eq_false (fun q => absurd ((nJ_le (by omega) (by omega)).mp q) (by omega))) ?_
    have hA2 : A ≤ 7776 := Nat.le_trans hA (Nat.pow_le_pow_right (by omega) (show i ≤ 5 by omega))
    have hA3 : A * (n + 1) ≤ 7776 * 6 := Nat.mul_le_mul hA2 (by omega)
    refine E_il rfl L3 ?_
    refine E_il rfl L1 ?_
    refine E_ci 1 rfl ci1 ?_
    refine E_bin rfl (nJ_add _ _) ?_
    refine E_bin rfl (nJ_mul _ _) ?_
    refine E_is rfl (fun lv1 L1_3 kp1 => ?_)
    have L1_0 := kp1 0 _ (nbz rfl) rfl L0
    have L1_1 := kp1 1 _ (nbz rfl) rfl L1
    have L1_2 := kp1 2 _ (nbz rfl) rfl L2
    have L1_4 := kp1 4 _ (nbz rfl) rfl L4
    refine E_inc rfl L1_4 (nJ_inc _) (fun lv2 L2_4 kp2 => ?_)
    have L2_0 := kp2 0 _ (nbz rfl) rfl L1_0
    have L2_1 := kp2 1 _ (nbz rfl) rfl L1_1
    have L2_2 := kp2 2 _ (nbz rfl) rfl L1_2
    have L2_3 := kp2 3 _ (nbz rfl) rfl L1_3
    refine E_goto rfl ?_
    refine ih (A := A * (n + 1)) lv2 (by omega) ?_ L2_0 L2_1 L2_2 L2_3 L2_4
    have h6 : A * (n + 1) ≤ 6 ^ i * 6 := Nat.mul_le_mul hA (by omega)
    rw [Nat.pow_succ]; exact h6
theorem sp_isSmall {h : pm_H} {d : Nat} {x : Int32} (hh : HH h) : Sp (d + 2) 279 h [.ref 77, .int x] (fun h' r => h' = h ∧ r = some (.int (zb (0 < (gi h 83 0).toInt ∧ 1 ≤ x.toInt ∧ x.toInt ≤ 5)))) := by
  refine Sp_of aiX9_isSmall rfl rfl rfl ?_
  refine E_al rfl (show pm_get (lv_args 0 [.ref 77, .int x]) 0 = _ from rfl) ?_
  refine E_call rfl (sp_isStreet hh) (chk77 hh rfl rfl (by show 0 ≤ 8; decide)) (fun h1 r1 => ?_)
  rintro ⟨e1, f1⟩
  rw [e1, f1]
  show Ends _ _ (4, (lv_args 0 [.ref 77, .int x]), [.int (zb (0 < (gi h 83 0).toInt))], h, 0, 0) _
  by_cases hb2 : ¬ (0 < (gi h 83 0).toInt)
  · refine E_ifT rfl (by rw [zb_F hb2]; rfl) ?_
    refine E_ci 0 rfl ci0 ?_
    exact E_rtz rfl (.inl rfl) ⟨rfl, by rw [zb_F (by omega)]⟩
  · refine E_ifF rfl (by rw [zb_T (Classical.not_not.mp hb2)]; rfl) ?_
    refine E_il rfl (show pm_get (lv_args 0 [.ref 77, .int x]) 1 = _ from rfl) ?_
    refine E_i2l rfl ?_
    refine E_c rfl ?_
    refine E_c rfl ?_
    refine E_call rfl (sp_in (a := x.toInt) (b := 1) (c := 5) (i2l_toInt _) rfl rfl) (chkS rfl (by show 0 ≤ 8; decide)) (fun h3 r3 => ?_)
    rintro ⟨e3, f3⟩
    rw [e3, f3]
    show Ends _ _ (16, (lv_args 0 [.ref 77, .int x]), [.int (zb (1 ≤ x.toInt ∧ x.toInt ≤ 5))], h, 0, 0) _
    by_cases hb4 : ¬ (1 ≤ x.toInt ∧ x.toInt ≤ 5)
    · refine E_ifT rfl (by rw [zb_F hb4]; rfl) ?_
      refine E_ci 0 rfl ci0 ?_
      exact E_rtz rfl (.inl rfl) ⟨rfl, by rw [zb_F (by omega)]⟩
    · refine E_ifF rfl (by rw [zb_T (Classical.not_not.mp hb4)]; rfl) ?_
      refine E_ci 1 rfl ci1 ?_
      refine E_goto rfl ?_
      exact E_rtz rfl (.inr rfl) ⟨rfl, by rw [zb_T (by omega)]⟩
theorem tp_trees {h0 : pm_H} {d : Nat} {x y : Int32} (hh0 : HH h0) (hR : RI 0 h0) : Sp (d + 30) 363 h0 [.ref 77, .int x, .int y] (TQ h0) := by
  refine Sp_of aiX9_trees rfl rfl rfl ?_
  have L0 : pm_get (lv_args 0 [.ref 77, .int x, .int y]) 0 = some (.ref 77) := rfl
  have L1 : pm_get (lv_args 0 [.ref 77, .int x, .int y]) 1 = some (.int x) := rfl
  have L2 : pm_get (lv_args 0 [.ref 77, .int x, .int y]) 2 = some (.int y) := rfl
  generalize lv_args 0 [.ref 77, .int x, .int y] = lv at L0 L1 L2 ⊢
  refine E_al rfl L0 ?_
  refine E_ci 0 rfl ci0 ?_
  refine E_pf rfl hh0 rfl ?_
  have hh1 : HH (pt h0 77 0 (nJ 0)) := HH_ptn hh0 rfl (by omega) (by omega) (by omega)
  have fr1 : fr_g TM h0 (pt h0 77 0 (nJ 0)) := fr_ptr (l := 0) (u := 0) rfl (by omega) (by omega) (fr_rf TM h0)
  refine E_al rfl L0 ?_
  refine E_il rfl L1 ?_
  refine E_call rfl (Sp_le (by first | exact Nat.add_le_add_left (Nat.le_of_ble_eq_true rfl) _ | exact Nat.le_of_ble_eq_true rfl | omega) (sp_isSmall (d := 0) hh1)) (chk77 hh1 rfl rfl (by show 0 ≤ 8; decide)) (fun h2 r2 => ?_)
  rintro ⟨e2, f2⟩
  rw [e2, f2]
  show Ends _ _ (10, lv, [.int (zb (0 < (gi (pt h0 77 0 (nJ 0)) 83 0).toInt ∧ 1 ≤ x.toInt ∧ x.toInt ≤ 5))], (pt h0 77 0 (nJ 0)), 0, 0) _
  by_cases hb3 : ¬ (0 < (gi (pt h0 77 0 (nJ 0)) 83 0).toInt ∧ 1 ≤ x.toInt ∧ x.toInt ≤ 5)
  · refine E_ifT rfl (by rw [zb_F hb3]; rfl) ?_
    refine E_c rfl ?_
    exact E_rti rfl ⟨hh1, fr1, _, rfl⟩
  · refine E_ifF rfl (by rw [zb_T (Classical.not_not.mp hb3)]; rfl) ?_
    have hsm := Classical.not_not.mp hb3
    obtain ⟨n, hn5, rfl⟩ := nJ_of2 (n := 5) (by omega) hsm.2.2
    have hn1 : 1 ≤ n := by have h9 := hsm.2.1; rw [nJ_toInt (by omega)] at h9; omega
    refine E_il rfl L2 ?_
    refine E_i2l rfl ?_
    refine E_c rfl ?_
    refine E_c rfl ?_
    refine E_call rfl (sp_in (a := y.toInt) (b := 0) (c := 20) (i2l_toInt _) rfl rfl) (chkS rfl (by show 0 ≤ 8; decide)) (fun h4 r4 => ?_)
    rintro ⟨e4, f4⟩
    rw [e4, f4]
    show Ends _ _ (22, lv, [.int (zb (0 ≤ y.toInt ∧ y.toInt ≤ 20))], (pt h0 77 0 (nJ 0)), 0, 0) _
    by_cases hb5 : 0 ≤ y.toInt ∧ y.toInt ≤ 20
    · refine E_ifT rfl (by rw [zb_T hb5]; rfl) ?_
      refine E_ci 1 rfl ci1 ?_
      refine E_is rfl (fun lv6 L6_3 kp6 => ?_)
      have L6_0 := kp6 0 _ (nbz rfl) rfl L0
      have L6_1 := kp6 1 _ (nbz rfl) rfl L1
      have L6_2 := kp6 2 _ (nbz rfl) rfl L2
      refine E_ci 0 rfl ci0 ?_
      refine E_is rfl (fun lv7 L7_4 kp7 => ?_)
      have L7_0 := kp7 0 _ (nbz rfl) rfl L6_0
      have L7_1 := kp7 1 _ (nbz rfl) rfl L6_1
      have L7_2 := kp7 2 _ (nbz rfl) rfl L6_2
      have L7_3 := kp7 3 _ (nbz rfl) rfl L6_3
      exact tr_all hn1 hn5 hh1 fr1 (n - 1) (A := 1) (i := 0) lv7 (by omega) (Nat.le_refl _) L7_0 L7_1 L7_2 L7_3 L7_4
    · refine E_ifF rfl (by rw [zb_F hb5]; rfl) ?_
      refine E_c rfl ?_
      exact E_rti rfl ⟨hh1, fr1, _, rfl⟩
end

