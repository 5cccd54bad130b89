section
theorem sp_shiftedOf {h : pm_H} {d c s : Nat} (hh : HH h) (hc : c < 8) (hs : s ≤ 8) (hw : 1 ≤ gn h 89 c) : Sp (d + 2) 346 h [.ref 77, .int (nJ c), .int (nJ s)] (fun h' r => h' = h ∧ r = some (.int (nJ ((gn h 89 c - 1 + s) % (gn h 84 0 + 1) + 1)))) := by
  refine Sp_of aiX9_shiftedOf rfl rfl rfl ?_
  refine E_al rfl (show pm_get (lv_args 0 [.ref 77, .int (nJ c), .int (nJ s)]) 0 = _ from rfl) ?_
  refine E_gr rfl hh (q := 89) rfl ?_
  refine E_il rfl (show pm_get (lv_args 0 [.ref 77, .int (nJ c), .int (nJ s)]) 1 = _ from rfl) ?_
  have b1 : gn h 89 c ≤ 8 := gn_hi hh (bd_u rfl (by omega)) (by decide)
  refine E_ial rfl hh rfl (by omega) (by decide) (gi_gn hh (bd_u rfl (by omega)) (by decide)) ?_
  refine E_ci 1 rfl ci1 ?_
  refine E_bin rfl (nJ_sub (by omega)) ?_
  refine E_il rfl (show pm_get (lv_args 0 [.ref 77, .int (nJ c), .int (nJ s)]) 2 = _ from rfl) ?_
  refine E_bin rfl (nJ_add _ _) ?_
  refine E_al rfl (show pm_get (lv_args 0 [.ref 77, .int (nJ c), .int (nJ s)]) 0 = _ from rfl) ?_
  refine E_call rfl (sp_places hh) (chk77 hh rfl rfl (by show 1 ≤ 8; decide)) (fun h2 r2 => ?_)
  rintro ⟨e2, f2, c2⟩
  rw [e2, f2]
  show Ends _ _ (14, (lv_args 0 [.ref 77, .int (nJ c), .int (nJ s)]), [.int (nJ (gn h 84 0)), .int (nJ (((gn h 89 c) - 1) + s))], h, 0, 0) _
  refine E_ci 1 rfl ci1 ?_
  refine E_bin rfl (nJ_add _ _) ?_
  refine E_div rfl (fun q => absurd ((nJ_eq0 (by omega)).mp q) (by omega)) (nJ_mod (by omega) (by omega) (by omega)) ?_
  refine E_ci 1 rfl ci1 ?_
  refine E_bin rfl (nJ_add _ _) ?_
  exact E_rti rfl ⟨rfl, rfl⟩
theorem rf_last {h0 h : pm_H} {d P : Nat} (hP8 : P ≤ 8) (hh : HH h) (hfr : fr_g QM h0 h) (j : Nat) : ∀ {p : Nat} (lv : List (Nat × Value)), p + j = P + 2 → pm_get lv 0 = some (.ref 77) → pm_get lv 2 = some (.int (nJ (P + 1))) → pm_get lv 3 = some (.int (nJ p)) → Ends (pm_at tX9_ringFree) (pm_Rt pm_P (d + 2)) (92, lv, [], h, 0, 0) (fun h' r => HH h' ∧ fr_g QM h0 h' ∧ ∃ x : Int32, r = some (.int x)) := by
  induction j with
  | zero =>
    intro p lv hj L0 L2 L3
    refine E_il rfl L3 ?_
    refine E_il rfl L2 ?_
    refine E_icT rfl (decide_eq_true ((nJ_lt (by omega) (by omega)).mpr (by omega))) ?_
    refine E_c rfl ?_
    exact E_rti rfl ⟨hh, hfr, _, rfl⟩
  | succ j ih =>
    intro p lv hj L0 L2 L3
    refine E_il rfl L3 ?_
    refine E_il rfl L2 ?_
    refine E_icF rfl (decide_eq_false (fun q => absurd ((nJ_lt (by omega) (by omega)).mp q) (by omega))) ?_
    refine E_al rfl L0 ?_
    refine E_gr rfl hh (q := 90) rfl ?_
    refine E_il rfl L3 ?_
    refine E_ial rfl hh rfl (by omega) (by decide) (show gi h 90 p = (gi h 90 p) from rfl) ?_
    refine E_c rfl ?_
    by_cases hb1 : ¬ (gi h 90 p) = -1
    · refine E_icT rfl (decide_eq_true hb1) ?_
      refine E_inc rfl L3 (nJ_inc _) (fun lv2 L2_3 kp2 => ?_)
      have L2_0 := kp2 0 _ (nbz rfl) rfl L0
      have L2_2 := kp2 2 _ (nbz rfl) rfl L2
      refine E_goto rfl ?_
      exact ih lv2 (by omega) L2_0 L2_2 L2_3
    · refine E_icF rfl (decide_eq_false hb1) ?_
      refine E_il rfl L3 ?_
      exact E_rti rfl ⟨hh, hfr, _, rfl⟩
theorem rf_in {h0 h : pm_H} {d P s c : Nat} (hP8 : P ≤ 8) (hc : c < 8) (R : RF h0 h P c) (K : ∀ {h : pm_H} (lv : List (Nat × Value)), RF h0 h P (c + 1) → pm_get lv 0 = some (.ref 77) → pm_get lv 1 = some (.int (nJ s)) → pm_get lv 2 = some (.int (nJ (P + 1))) → pm_get lv 3 = some (.int (nJ (c + 1))) → Ends (pm_at tX9_ringFree) (pm_Rt pm_P (d + 2)) (30, lv, [], h, 0, 0) (fun h' r => HH h' ∧ fr_g QM h0 h' ∧ ∃ x : Int32, r = some (.int x))) (e : Nat) : ∀ {v : Nat} (lv : List (Nat × Value)), 1 ≤ v → v ≤ P + 1 → hfd (hq h) (P + 1) e v → pm_get lv 0 = some (.ref 77) → pm_get lv 1 = some (.int (nJ s)) → pm_get lv 2 = some (.int (nJ (P + 1))) → pm_get lv 3 = some (.int (nJ c)) → pm_get lv 4 = some (.int (nJ v)) → Ends (pm_at tX9_ringFree) (pm_Rt pm_P (d + 2)) (46, lv, [], h, 0, 0) (fun h' r => HH h' ∧ fr_g QM h0 h' ∧ ∃ x : Int32, r = some (.int x)) := by
  induction e with
  | zero =>
    intro v lv hv1 hv2 hd L0 L1 L2 L3 L4
    have hd : hq h v = -1 := hd
    refine E_al rfl L0 ?_
    refine E_gr rfl R.1 (q := 90) rfl ?_
    refine E_il rfl L4 ?_
    refine E_ial rfl R.1 rfl (by omega) (by decide) (show gi h 90 v = (gi h 90 v) from rfl) ?_
    refine E_c rfl ?_
    refine E_icT rfl (decide_eq_true (hq_m1.mpr hd)) ?_
    refine E_al rfl L0 ?_
    refine E_gr rfl R.1 (q := 90) rfl ?_
    refine E_il rfl L4 ?_
    refine E_il rfl L3 ?_
    refine E_ias rfl R.1 rfl (by omega) (by decide) ?_
    have hh1 : HH (pt h 90 v (nJ c)) := HH_ptn R.1 (bd_u rfl (by omega)) (by omega) (by omega) (by omega)
    refine E_al rfl L0 ?_
    refine E_gr rfl hh1 (q := 91) rfl ?_
    refine E_il rfl L3 ?_
    refine E_il rfl L4 ?_
    refine E_ias rfl hh1 rfl (by omega) (by decide) ?_
    have hh2 : HH (pt (pt h 90 v (nJ c)) 91 c (nJ v)) := HH_ptn hh1 (bd_u rfl (by omega)) (by omega) (by omega) (by omega)
    refine E_inc rfl L3 (nJ_inc _) (fun lv3 L3_3 kp3 => ?_)
    have L3_0 := kp3 0 _ (nbz rfl) rfl L0
    have L3_1 := kp3 1 _ (nbz rfl) rfl L1
    have L3_2 := kp3 2 _ (nbz rfl) rfl L2
    have L3_4 := kp3 4 _ (nbz rfl) rfl L4
    refine E_goto rfl ?_
    exact K lv3 (RF_add hP8 hc R hv1 hv2) L3_0 L3_1 L3_2 L3_3
  | succ e ih =>
    intro v lv hv1 hv2 hd L0 L1 L2 L3 L4
    refine E_al rfl L0 ?_
    refine E_gr rfl R.1 (q := 90) rfl ?_
    refine E_il rfl L4 ?_
    refine E_ial rfl R.1 rfl (by omega) (by decide) (show gi h 90 v = (gi h 90 v) from rfl) ?_
    refine E_c rfl ?_
    by_cases hb1 : (gi h 90 v) = -1
    · refine E_icT rfl (decide_eq_true hb1) ?_
      refine E_al rfl L0 ?_
      refine E_gr rfl R.1 (q := 90) rfl ?_
      refine E_il rfl L4 ?_
      refine E_il rfl L3 ?_
      refine E_ias rfl R.1 rfl (by omega) (by decide) ?_
      have hh2 : HH (pt h 90 v (nJ c)) := HH_ptn R.1 (bd_u rfl (by omega)) (by omega) (by omega) (by omega)
      refine E_al rfl L0 ?_
      refine E_gr rfl hh2 (q := 91) rfl ?_
      refine E_il rfl L3 ?_
      refine E_il rfl L4 ?_
      refine E_ias rfl hh2 rfl (by omega) (by decide) ?_
      have hh3 : HH (pt (pt h 90 v (nJ c)) 91 c (nJ v)) := HH_ptn hh2 (bd_u rfl (by omega)) (by omega) (by omega) (by omega)
      refine E_inc rfl L3 (nJ_inc _) (fun lv4 L4_3 kp4 => ?_)
      have L4_0 := kp4 0 _ (nbz rfl) rfl L0
      have L4_1 := kp4 1 _ (nbz rfl) rfl L1
      have L4_2 := kp4 2 _ (nbz rfl) rfl L2
      have L4_4 := kp4 4 _ (nbz rfl) rfl L4
      refine E_goto rfl ?_
      exact K lv4 (RF_add hP8 hc R hv1 hv2) L4_0 L4_1 L4_2 L4_3
    · refine E_icF rfl (decide_eq_false hb1) ?_
      have hmd := Nat.mod_lt v (show 0 < P + 1 by omega)
      refine E_il rfl L4 ?_
      refine E_il rfl L2 ?_
      refine E_div rfl (fun q => absurd ((nJ_eq0 (by omega)).mp q) (by omega)) (nJ_mod (by omega) (by omega) (by omega)) ?_
      refine E_ci 1 rfl ci1 ?_
      refine E_bin rfl (nJ_add _ _) ?_
      refine E_is rfl (fun lv5 L5_4 kp5 => ?_)
      have L5_0 := kp5 0 _ (nbz rfl) rfl L0
      have L5_1 := kp5 1 _ (nbz rfl) rfl L1
      have L5_2 := kp5 2 _ (nbz rfl) rfl L2
      have L5_3 := kp5 3 _ (nbz rfl) rfl L3
      refine E_goto rfl ?_
      refine ih lv5 (by omega) (by omega) ?_ L5_0 L5_1 L5_2 L5_3 L5_4
      cases hd with
      | inl q => exact absurd (hq_m1.mpr q) hb1
      | inr q => exact q
theorem rf_cars {h0 : pm_H} {d P C s : Nat} (hh0 : HH h0) (hP : gn h0 84 0 = P) (hC : gn h0 84 3 = C) (hP8 : P ≤ 8) (hCP : C ≤ P) (hs : s ≤ 8) (hw : ∀ c, c < C → 1 ≤ gn h0 89 c) (j : Nat) : ∀ {h : pm_H} {c : Nat} (lv : List (Nat × Value)), c + j = C → RF h0 h P c → pm_get lv 0 = some (.ref 77) → pm_get lv 1 = some (.int (nJ s)) → pm_get lv 2 = some (.int (nJ (P + 1))) → pm_get lv 3 = some (.int (nJ c)) → Ends (pm_at tX9_ringFree) (pm_Rt pm_P (d + 2)) (30, lv, [], h, 0, 0) (fun h' r => HH h' ∧ fr_g QM h0 h' ∧ ∃ x : Int32, r = some (.int x)) := by
  induction j with
  | zero =>
    intro h c lv hj R L0 L1 L2 L3
    have hce : gn h 84 3 = C := by rw [fr_gn R.2.1 (rg_no rfl _)]; exact hC
    refine E_il rfl L3 ?_
    refine E_al rfl L0 ?_
    refine E_call rfl (sp_cars R.1) (chk77 R.1 rfl rfl (by show 1 ≤ 8; decide)) (fun h1 r1 => ?_)
    rintro ⟨e1, f1, c1⟩
    rw [e1, f1]
    show Ends _ _ (35, lv, [.int (nJ (gn h 84 3)), .int (nJ c)], h, 0, 0) _
    refine E_icT rfl (decide_eq_true ((nJ_le (by omega) (by omega)).mpr (by omega))) ?_
    refine E_ci 1 rfl ci1 ?_
    refine E_is rfl (fun lv2 L2_3 kp2 => ?_)
    have L2_0 := kp2 0 _ (nbz rfl) rfl L0
    have L2_1 := kp2 1 _ (nbz rfl) rfl L1
    have L2_2 := kp2 2 _ (nbz rfl) rfl L2
    exact rf_last hP8 R.1 R.2.1 (P + 1) (p := 1) lv2 (by omega) L2_0 L2_2 L2_3
  | succ j ih =>
    intro h c lv hj R L0 L1 L2 L3
    have hce : gn h 84 3 = C := by rw [fr_gn R.2.1 (rg_no rfl _)]; exact hC
    have hpe : gn h 84 0 = P := by rw [fr_gn R.2.1 (rg_no rfl _)]; exact hP
    refine E_il rfl L3 ?_
    refine E_al rfl L0 ?_
    refine E_call rfl (sp_cars R.1) (chk77 R.1 rfl rfl (by show 1 ≤ 8; decide)) (fun h1 r1 => ?_)
    rintro ⟨e1, f1, c1⟩
    rw [e1, f1]
    show Ends _ _ (35, lv, [.int (nJ (gn h 84 3)), .int (nJ c)], h, 0, 0) _
    refine E_icF rfl (decide_eq_false (fun q => absurd ((nJ_le (by omega) (by omega)).mp q) (by omega))) ?_
    refine E_al rfl L0 ?_
    refine E_il rfl L3 ?_
    refine E_il rfl L1 ?_
    have hwc : gn h 89 c = gn h0 89 c := fr_gn R.2.1 (rg_no rfl _)
    refine E_call rfl (Sp_le (by first | exact Nat.add_le_add_left (Nat.le_of_ble_eq_true rfl) _ | exact Nat.le_of_ble_eq_true rfl | omega) (sp_shiftedOf (d := 0) R.1 (by omega) hs (by rw [hwc]; exact hw c (by omega)))) (chk77 R.1 rfl rfl (by show 0 ≤ 8; decide)) (fun h2 r2 => ?_)
    rintro ⟨e2, f2⟩
    rw [e2, f2, hpe]
    obtain ⟨v, hv⟩ : ∃ v, v = (gn h 89 c - 1 + s) % (P + 1) + 1 := ⟨_, rfl⟩
    have hmd := Nat.mod_lt (gn h 89 c - 1 + s) (show 0 < P + 1 by omega)
    rw [← hv]
    show Ends _ _ (44, lv, [.int (nJ v)], h, 0, 0) _
    refine E_is rfl (fun lv3 L3_4 kp3 => ?_)
    have L3_0 := kp3 0 _ (nbz rfl) rfl L0
    have L3_1 := kp3 1 _ (nbz rfl) rfl L1
    have L3_2 := kp3 2 _ (nbz rfl) rfl L2
    have L3_3 := kp3 3 _ (nbz rfl) rfl L3
    exact rf_in hP8 (by omega) R (fun lv' R' a b c e => ih lv' (by omega) R' a b c e) P lv3 (by omega) (by omega) (hfd_free (R := P + 1) (by omega) (by have := R.2.2; omega) (by omega) (by omega)) L3_0 L3_1 L3_2 L3_3 L3_4
theorem rf_zero {h0 : pm_H} {d P C s : Nat} (hh0 : HH h0) (hP : gn h0 84 0 = P) (hC : gn h0 84 3 = C) (hP8 : P ≤ 8) (hCP : C ≤ P) (hs : s ≤ 8) (hw : ∀ c, c < C → 1 ≤ gn h0 89 c) (j : Nat) : ∀ {h : pm_H} {p : Nat} (lv : List (Nat × Value)), p + j = 10 → HH h → fr_g QM h0 h → (∀ q, q < p → gi h 90 q = -1) → pm_get lv 0 = some (.ref 77) → pm_get lv 1 = some (.int (nJ s)) → pm_get lv 2 = some (.int (nJ (P + 1))) → pm_get lv 3 = some (.int (nJ p)) → Ends (pm_at tX9_ringFree) (pm_Rt pm_P (d + 2)) (9, lv, [], h, 0, 0) (fun h' r => HH h' ∧ fr_g QM h0 h' ∧ ∃ x : Int32, r = some (.int x)) := by
  induction j with
  | zero =>
    intro h p lv hj hh hfr hz L0 L1 L2 L3
    refine E_il rfl L3 ?_
    refine E_ci 10 rfl ci10 ?_
    refine E_icT rfl (decide_eq_true ((nJ_le (by omega) (by omega)).mpr (by omega))) ?_
    refine E_ci 0 rfl ci0 ?_
    refine E_is rfl (fun lv1 L1_3 kp1 => ?_)
    have L1_0 := kp1 0 _ (nbz rfl) rfl L0
    have L1_1 := kp1 1 _ (nbz rfl) rfl L1
    have L1_2 := kp1 2 _ (nbz rfl) rfl L2
    exact rf_cars hh0 hP hC hP8 hCP hs hw C (c := 0) lv1 (by omega) ⟨hh, hfr, by rw [cntf_zero (fun q _ h2 => hq_m1.mp (hz q (by omega)))]; omega⟩ L1_0 L1_1 L1_2 L1_3
  | succ j ih =>
    intro h p lv hj hh hfr hz L0 L1 L2 L3
    refine E_il rfl L3 ?_
    refine E_ci 10 rfl ci10 ?_
    refine E_icF rfl (decide_eq_false (fun q => absurd ((nJ_le (by omega) (by omega)).mp q) (by omega))) ?_
    refine E_al rfl L0 ?_
    refine E_gr rfl hh (q := 90) rfl ?_
    refine E_il rfl L3 ?_
    refine E_c rfl ?_
    refine E_ias rfl hh rfl (by omega) (by decide) ?_
    have hh1 : HH (pt h 90 p (-1)) := HH_pt hh (bd_u rfl (by omega)) (by decide) (by decide)
    refine E_inc rfl L3 (nJ_inc _) (fun lv2 L2_3 kp2 => ?_)
    have L2_0 := kp2 0 _ (nbz rfl) rfl L0
    have L2_1 := kp2 1 _ (nbz rfl) rfl L1
    have L2_2 := kp2 2 _ (nbz rfl) rfl L2
    refine E_goto rfl ?_
    refine ih lv2 (by omega) hh1 (fr_ptr (l := 0) (u := 9) rfl (by omega) (by omega) hfr) (fun q hq1 => ?_) L2_0 L2_1 L2_2 L2_3
    by_cases e : q = p
    · rw [e]; exact gi_pt hh (bd_u rfl (by omega)) (by decide) (by decide)
    · rw [gi_ne (fun _ => e)]; exact hz q (by omega)
theorem sp_ringFree {h0 : pm_H} {d s : Nat} (hh : HH h0) (hCP : gn h0 84 3 ≤ gn h0 84 0) (hs : s ≤ 8) (hw : ∀ c, c < gn h0 84 3 → 1 ≤ gn h0 89 c) : Sp (d + 3) 336 h0 [.ref 77, .int (nJ s)] (fun h' r => HH h' ∧ fr_g QM h0 h' ∧ ∃ x : Int32, r = some (.int x)) := by
  refine Sp_of aiX9_ringFree rfl rfl rfl ?_
  refine E_al rfl (show pm_get (lv_args 0 [.ref 77, .int (nJ s)]) 0 = _ from rfl) ?_
  refine E_call rfl (sp_places hh) (chk77 hh rfl rfl (by show 0 ≤ 8; decide)) (fun h1 r1 => ?_)
  rintro ⟨e1, f1, c1⟩
  rw [e1, f1]
  show Ends _ _ (4, (lv_args 0 [.ref 77, .int (nJ s)]), [.int (nJ (gn h0 84 0))], h0, 0, 0) _
  refine E_ci 1 rfl ci1 ?_
  refine E_bin rfl (nJ_add _ _) ?_
  refine E_is rfl (fun lv2 L2_2 kp2 => ?_)
  have L2_0 := kp2 0 _ (nbz rfl) rfl (show pm_get (lv_args 0 [.ref 77, .int (nJ s)]) 0 = _ from rfl)
  have L2_1 := kp2 1 _ (nbz rfl) rfl (show pm_get (lv_args 0 [.ref 77, .int (nJ s)]) 1 = _ from rfl)
  refine E_ci 0 rfl ci0 ?_
  refine E_is rfl (fun lv3 L3_3 kp3 => ?_)
  have L3_0 := kp3 0 _ (nbz rfl) rfl L2_0
  have L3_1 := kp3 1 _ (nbz rfl) rfl L2_1
  have L3_2 := kp3 2 _ (nbz rfl) rfl L2_2
  exact rf_zero hh rfl rfl (by omega) hCP hs hw 10 (p := 0) lv3 (by omega) hh (fr_rf _ _) (fun q hq1 => absurd hq1 (Nat.not_lt_zero _)) L3_0 L3_1 L3_2 L3_3
theorem tp_ring {h0 : pm_H} {d : Nat} {x : Int32} (hh0 : HH h0) (hR : RI 0 h0) : Sp (d + 30) 335 h0 [.ref 77, .int x] (TQ h0) := by
  refine Sp_of aiX9_ring rfl rfl rfl ?_
  have L0 : pm_get (lv_args 0 [.ref 77, .int x]) 0 = some (.ref 77) := rfl
  have L1 : pm_get (lv_args 0 [.ref 77, .int x]) 1 = some (.int x) := rfl
  generalize lv_args 0 [.ref 77, .int x] = lv at L0 L1 ⊢
  refine E_al rfl L0 ?_
  refine E_ci 0 rfl ci0 ?_
  refine E_pf rfl hh0 rfl ?_
  have hh1 : HH (pt h0 77 0 (nJ 0)) := HH_ptn hh0 rfl (by omega) (by omega) (by omega)
  have fr1 : fr_g TM h0 (pt h0 77 0 (nJ 0)) := fr_ptr (l := 0) (u := 0) rfl (by omega) (by omega) (fr_rf TM h0)
  refine E_al rfl L0 ?_
  refine E_il rfl L1 ?_
  refine E_i2l rfl ?_
  refine E_call rfl (sp_isCar hh1) (chk77 hh1 rfl rfl (by show 0 ≤ 8; decide)) (fun h2 r2 => ?_)
  rintro ⟨e2, f2⟩
  rw [e2, f2]
  show Ends _ _ (11, lv, [.int (zb (0 ≤ x.toInt ∧ x.toInt ≤ (gn (pt h0 77 0 (nJ 0)) 84 3 : Int) - 1))], (pt h0 77 0 (nJ 0)), 0, 0) _
  by_cases hb3 : 0 ≤ x.toInt ∧ x.toInt ≤ (gn (pt h0 77 0 (nJ 0)) 84 3 : Int) - 1
  · refine E_ifT rfl (by rw [zb_T hb3]; rfl) ?_
    have hC8 : gn (pt h0 77 0 (nJ 0)) 84 3 ≤ 8 := gn_hi hh1 rfl (by decide)
    obtain ⟨k, hk, rfl⟩ := nJ_of2 (n := gn (pt h0 77 0 (nJ 0)) 84 3 - 1) hb3.1 (by have := hb3.2; have := hb3.1; omega)
    have hk2 : k < gn (pt h0 77 0 (nJ 0)) 84 3 := by have h9 := hb3.2; have h8 := hb3.1; rw [nJ_toInt (by omega)] at h9; omega
    refine E_al rfl L0 ?_
    refine E_call rfl (Sp_le (by first | exact Nat.add_le_add_left (Nat.le_of_ble_eq_true rfl) _ | exact Nat.le_of_ble_eq_true rfl | omega) (sp_lays (d := 0) hh1 (RI_fr hR rfl fr1))) (chk77 hh1 rfl rfl (by show 0 ≤ 8; decide)) (fun h4 r4 => ?_)
    rintro ⟨e4, hh4, fq4, wq4⟩
    rw [e4]
    have fr4 : fr_g TM h0 h4 := fr_trans fr1 (fr_wk rfl fq4)
    show Ends _ _ (21, lv, [], h4, 0, 0) _
    refine E_al rfl L0 ?_
    refine E_ci 0 rfl ci0 ?_
    refine E_call rfl (Sp_le (by first | exact Nat.add_le_add_left (Nat.le_of_ble_eq_true rfl) _ | exact Nat.le_of_ble_eq_true rfl | omega) (sp_ringFree (d := 0) hh4 (RI_fr hR rfl fr4).1 (by omega) wq4)) (chk77 hh4 rfl rfl (by show 0 ≤ 8; decide)) (fun h5 r5 => ?_)
    rintro ⟨hh5, fq5, x5, f5⟩
    rw [f5]
    have fr5 : fr_g TM h0 h5 := fr_trans fr4 (fr_wk rfl fq5)
    have pe5 : gn h5 84 0 = gn h4 84 0 := fr_gn fq5 (rg_no rfl _)
    show Ends _ _ (26, lv, [.int x5], h5, 0, 0) _
    refine E_pop rfl rfl ?_
    refine E_al rfl L0 ?_
    refine E_gr rfl hh5 (q := 91) rfl ?_
    refine E_il rfl L1 ?_
    refine E_ial rfl hh5 rfl (by omega) (by decide) (show gi h5 91 k = (gi h5 91 k) from rfl) ?_
    exact E_rti rfl ⟨hh5, fr5, _, rfl⟩
  · refine E_ifF rfl (by rw [zb_F hb3]; rfl) ?_
    refine E_c rfl ?_
    exact E_rti rfl ⟨hh1, fr1, _, rfl⟩
theorem tp_hole {h0 : pm_H} {d : Nat} (hh0 : HH h0) (hR : RI 0 h0) : Sp (d + 30) 259 h0 [.ref 77] (TQ h0) := by
  refine Sp_of aiX9_hole rfl rfl rfl ?_
  have L0 : pm_get (lv_args 0 [.ref 77]) 0 = some (.ref 77) := rfl
  generalize lv_args 0 [.ref 77] = lv at L0 ⊢
  refine E_al rfl L0 ?_
  refine E_ci 0 rfl ci0 ?_
  refine E_pf rfl hh0 rfl ?_
  have hh1 : HH (pt h0 77 0 (nJ 0)) := HH_ptn hh0 rfl (by omega) (by omega) (by omega)
  have fr1 : fr_g TM h0 (pt h0 77 0 (nJ 0)) := fr_ptr (l := 0) (u := 0) rfl (by omega) (by omega) (fr_rf TM h0)
  refine E_al rfl L0 ?_
  refine E_call rfl (sp_isStreet hh1) (chk77 hh1 rfl rfl (by show 0 ≤ 8; decide)) (fun h2 r2 => ?_)
  rintro ⟨e2, f2⟩
  rw [e2, f2]
  show Ends _ _ (9, lv, [.int (zb (0 < (gi (pt h0 77 0 (nJ 0)) 83 0).toInt))], (pt h0 77 0 (nJ 0)), 0, 0) _
  by_cases hb3 : 0 < (gi (pt h0 77 0 (nJ 0)) 83 0).toInt
  · refine E_ifT rfl (by rw [zb_T hb3]; rfl) ?_
    refine E_al rfl L0 ?_
    refine E_call rfl (Sp_le (by first | exact Nat.add_le_add_left (Nat.le_of_ble_eq_true rfl) _ | exact Nat.le_of_ble_eq_true rfl | omega) (sp_lays (d := 0) hh1 (RI_fr hR rfl fr1))) (chk77 hh1 rfl rfl (by show 0 ≤ 8; decide)) (fun h4 r4 => ?_)
    rintro ⟨e4, hh4, fq4, wq4⟩
    rw [e4]
    have fr4 : fr_g TM h0 h4 := fr_trans fr1 (fr_wk rfl fq4)
    show Ends _ _ (19, lv, [], h4, 0, 0) _
    refine E_al rfl L0 ?_
    refine E_ci 0 rfl ci0 ?_
    refine E_call rfl (Sp_le (by first | exact Nat.add_le_add_left (Nat.le_of_ble_eq_true rfl) _ | exact Nat.le_of_ble_eq_true rfl | omega) (sp_ringFree (d := 0) hh4 (RI_fr hR rfl fr4).1 (by omega) wq4)) (chk77 hh4 rfl rfl (by show 0 ≤ 8; decide)) (fun h5 r5 => ?_)
    rintro ⟨hh5, fq5, x5, f5⟩
    rw [f5]
    have fr5 : fr_g TM h0 h5 := fr_trans fr4 (fr_wk rfl fq5)
    have pe5 : gn h5 84 0 = gn h4 84 0 := fr_gn fq5 (rg_no rfl _)
    show Ends _ _ (24, lv, [.int x5], h5, 0, 0) _
    exact E_rti rfl ⟨hh5, fr5, _, rfl⟩
  · refine E_ifF rfl (by rw [zb_F hb3]; rfl) ?_
    refine E_c rfl ?_
    exact E_rti rfl ⟨hh1, fr1, _, rfl⟩
theorem sf_loop {h0 : pm_H} {d P : Nat} (hR : RI 0 h0) (hP8 : P ≤ 8) (j : Nat) : ∀ {h : pm_H} {b : Int32} {k : Nat} (lv : List (Nat × Value)), k + j = P + 1 → HH h → fr_g TM h0 h → (∀ c, c < gn h 84 3 → 1 ≤ gn h 89 c) → gn h 84 0 = P → pm_get lv 0 = some (.ref 77) → pm_get lv 1 = some (.int b) → pm_get lv 2 = some (.int (nJ k)) → Ends (pm_at tX9_shifts) (pm_Rt pm_P (d + 29)) (23, lv, [], h, 0, 0) (TQ h0) := by
  induction j with
  | zero =>
    intro h b k lv hj hh hfr hw hP L0 L1 L2
    refine E_il rfl L2 ?_
    refine E_al rfl L0 ?_
    refine E_call rfl (sp_places hh) (chk77 hh rfl rfl (by show 1 ≤ 8; decide)) (fun h1 r1 => ?_)
    rintro ⟨e1, f1, c1⟩
    rw [e1, f1]
    show Ends _ _ (28, lv, [.int (nJ (gn h 84 0)), .int (nJ k)], h, 0, 0) _
    refine E_icT rfl (decide_eq_true ((nJ_lt (by omega) (by omega)).mpr (by omega))) ?_
    refine E_il rfl L1 ?_
    exact E_rti rfl ⟨hh, hfr, _, rfl⟩
  | succ j ih =>
    intro h b k lv hj hh hfr hw hP L0 L1 L2
    refine E_il rfl L2 ?_
    refine E_al rfl L0 ?_
    refine E_call rfl (sp_places hh) (chk77 hh rfl rfl (by show 1 ≤ 8; decide)) (fun h1 r1 => ?_)
    rintro ⟨e1, f1, c1⟩
    rw [e1, f1]
    show Ends _ _ (28, lv, [.int (nJ (gn h 84 0)), .int (nJ k)], h, 0, 0) _
    refine E_icF rfl (decide_eq_false (fun q => absurd ((nJ_lt (by omega) (by omega)).mp q) (by omega))) ?_
    refine E_al rfl L0 ?_
    refine E_il rfl L2 ?_
    refine E_call rfl (Sp_le (by first | exact Nat.add_le_add_left (Nat.le_of_ble_eq_true rfl) _ | exact Nat.le_of_ble_eq_true rfl | omega) (sp_ringFree (d := 0) hh (RI_fr hR rfl hfr).1 (by omega) hw)) (chk77 hh rfl rfl (by show 0 ≤ 8; decide)) (fun h2 r2 => ?_)
    rintro ⟨hh2, fq2, x2, f2⟩
    rw [f2]
    have fr2 : fr_g TM h0 h2 := fr_trans hfr (fr_wk rfl fq2)
    have pe2 : gn h2 84 0 = gn h 84 0 := fr_gn fq2 (rg_no rfl _)
    show Ends _ _ (36, lv, [.int x2], h2, 0, 0) _
    refine E_pop rfl rfl ?_
    refine E_il rfl L1 ?_
    refine E_al rfl L0 ?_
    refine E_gr rfl hh2 (q := 90) rfl ?_
    refine E_al rfl L0 ?_
    refine E_call rfl (sp_places hh2) (chk77 hh2 rfl rfl (by show 2 ≤ 8; decide)) (fun h3 r3 => ?_)
    rintro ⟨e3, f3, c3⟩
    rw [e3, f3]
    show Ends _ _ (46, lv, [.int (nJ (gn h2 84 0)), .ref 90, .int b], h2, 0, 0) _
    refine E_ci 1 rfl ci1 ?_
    refine E_bin rfl (nJ_add _ _) ?_
    refine E_ial rfl hh2 rfl (by omega) (by decide) (show gi h2 90 (((gn h2 84 0) + 1)) = (gi h2 90 (((gn h2 84 0) + 1))) from rfl) ?_
    refine E_c rfl ?_
    by_cases hb4 : ¬ (gi h2 90 (((gn h2 84 0) + 1))) = -1
    · refine E_icT rfl (decide_eq_true hb4) ?_
      refine E_ci 0 rfl ci0 ?_
      refine E_bin rfl rfl ?_
      refine E_is rfl (fun lv5 L5_1 kp5 => ?_)
      have L5_0 := kp5 0 _ (nbz rfl) rfl L0
      have L5_2 := kp5 2 _ (nbz rfl) rfl L2
      refine E_inc rfl L5_2 (nJ_inc _) (fun lv6 L6_2 kp6 => ?_)
      have L6_0 := kp6 0 _ (nbz rfl) rfl L5_0
      have L6_1 := kp6 1 _ (nbz rfl) rfl L5_1
      refine E_goto rfl ?_
      exact ih lv6 (by omega) hh2 fr2 (fun c hc => by rw [fr_gn fq2 (rg_no rfl _)] at hc ⊢; exact hw c hc) (by rw [pe2]; exact hP) L6_0 L6_1 L6_2
    · refine E_icF rfl (decide_eq_false hb4) ?_
      refine E_ci 1 rfl ci1 ?_
      refine E_il rfl L2 ?_
      refine E_bin rfl rfl ?_
      refine E_goto rfl ?_
      refine E_bin rfl rfl ?_
      refine E_is rfl (fun lv7 L7_1 kp7 => ?_)
      have L7_0 := kp7 0 _ (nbz rfl) rfl L0
      have L7_2 := kp7 2 _ (nbz rfl) rfl L2
      refine E_inc rfl L7_2 (nJ_inc _) (fun lv8 L8_2 kp8 => ?_)
      have L8_0 := kp8 0 _ (nbz rfl) rfl L7_0
      have L8_1 := kp8 1 _ (nbz rfl) rfl L7_1
      refine E_goto rfl ?_
      exact ih lv8 (by omega) hh2 fr2 (fun c hc => by rw [fr_gn fq2 (rg_no rfl _)] at hc ⊢; exact hw c hc) (by rw [pe2]; exact hP) L8_0 L8_1 L8_2
end
