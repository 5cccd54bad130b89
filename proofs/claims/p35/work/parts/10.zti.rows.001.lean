section
theorem tv_trades {h0 : pm_H} {d : Nat} {x y : Int32} (hh0 : HH h0) (hV : RV h0) : Sp (d + 40) 362 h0 [.ref 77, .int x, .int y] (VQ h0) := by
  refine Sp_of aiX9_trades rfl rfl rfl ?_
  have L0 : pm_get (lv_args 0 [.ref 77, .int x, .int y]) 0 = some (.ref 77) := rfl
  have L1 : pm_get (lv_args 0 [.ref 77, .int x, .int y]) 1 = some (.int x) := rfl
  have L2 : pm_get (lv_args 0 [.ref 77, .int x, .int y]) 2 = some (.int y) := rfl
  generalize lv_args 0 [.ref 77, .int x, .int y] = lv at L0 L1 L2 ⊢
  refine E_al rfl L0 ?_
  refine E_ci 0 rfl ci0 ?_
  refine E_pf rfl hh0 rfl ?_
  have hh1 : HH (pt h0 77 0 (nJ 0)) := HH_ptn hh0 rfl (by omega) (by omega) (by omega)
  have fr1 : fr_g VM h0 (pt h0 77 0 (nJ 0)) := fr_ptr (l := 0) (u := 0) rfl (by omega) (by omega) (fr_rf VM h0)
  have V0 : RV (pt h0 77 0 (nJ 0)) := RV_fr hh0 (M := [(77, 0, 0)]) rfl (fr_ptr (l := 0) (u := 0) rfl (by omega) (by omega) (fr_rf _ _)) hV
  refine E_al rfl L0 ?_
  refine E_il rfl L1 ?_
  refine E_il rfl L2 ?_
  refine E_call rfl (Sp_le (by first | exact Nat.add_le_add_left (Nat.le_of_ble_eq_true rfl) _ | exact Nat.le_of_ble_eq_true rfl | omega) (sp_areTwo (d := 0) hh1)) (chk77 hh1 rfl rfl (by show 0 ≤ 8; decide)) (fun h2 r2 => ?_)
  rintro ⟨e2, f2⟩
  rw [e2, f2]
  show Ends _ _ (11, lv, [.int (zb ((0 ≤ x.toInt ∧ x.toInt ≤ (gn (pt h0 77 0 (nJ 0)) 84 3 : Int) - 1) ∧ (0 ≤ y.toInt ∧ y.toInt ≤ (gn (pt h0 77 0 (nJ 0)) 84 3 : Int) - 1) ∧ ¬ x = y))], (pt h0 77 0 (nJ 0)), 0, 0) _
  by_cases hb3 : (0 ≤ x.toInt ∧ x.toInt ≤ (gn (pt h0 77 0 (nJ 0)) 84 3 : Int) - 1) ∧ (0 ≤ y.toInt ∧ y.toInt ≤ (gn (pt h0 77 0 (nJ 0)) 84 3 : Int) - 1) ∧ ¬ x = y
  · refine E_ifT rfl (by rw [zb_T hb3]; rfl) ?_
    have hC8 : gn (pt h0 77 0 (nJ 0)) 84 3 ≤ 8 := gn_hi hh1 rfl (by decide)
    obtain ⟨qa, qb, -⟩ := hb3
    obtain ⟨k, hk, rfl⟩ := nJ_of2 (n := gn (pt h0 77 0 (nJ 0)) 84 3 - 1) qa.1 (by have := qa.2; have := qa.1; omega)
    obtain ⟨p, hp, rfl⟩ := nJ_of2 (n := gn (pt h0 77 0 (nJ 0)) 84 3 - 1) (x := y) qb.1 (by have := qb.2; have := qb.1; omega)
    have hc1 : 1 ≤ gn (pt h0 77 0 (nJ 0)) 84 3 := by have := qa.1; have := qa.2; omega
    refine E_al rfl L0 ?_
    refine E_gr rfl hh1 (q := 84) rfl ?_
    refine E_ci 5 rfl ci5 ?_
    have b4 : gn (pt h0 77 0 (nJ 0)) 84 5 ≤ 20 := gn_hi hh1 rfl (by decide)
    refine E_ial rfl hh1 rfl (by omega) (by decide) (gi_gn hh1 rfl (by decide)) ?_
    refine E_ci 20 rfl ci20 ?_
    by_cases hb5 : ¬ (gn (pt h0 77 0 (nJ 0)) 84 5) = 20
    · refine E_icT rfl (decide_eq_true (fun q => hb5 ((nJ_eq (by omega) (by omega)).mp q))) ?_
      refine E_al rfl L0 ?_
      refine E_ci 1 rfl ci1 ?_
      refine E_il rfl L1 ?_
      refine E_il rfl L2 ?_
      refine E_call rfl (Sp_le (by first | exact Nat.add_le_add_left (Nat.le_of_ble_eq_true rfl) _ | exact Nat.le_of_ble_eq_true rfl | omega) (sp_does (d := 0) hh1 V0 (by omega) (by omega) (by omega) (by omega) (by omega))) (chk77 hh1 rfl rfl (by show 0 ≤ 8; decide)) (fun h6 r6 => ?_)
      rintro ⟨hh6, fq6, V6, x6, f6⟩
      rw [f6]
      have fr6 : fr_g VM h0 h6 := fr_trans fr1 fq6
      show Ends _ _ (40, lv, [.int x6], h6, 0, 0) _
      exact E_rti rfl ⟨hh6, fr6, V6, _, rfl⟩
    · refine E_icF rfl (decide_eq_false (fun q => hb5 (fun z => q ((nJ_eq (by omega) (by omega)).mpr z)))) ?_
      refine E_c rfl ?_
      refine E_goto rfl ?_
      exact E_rti rfl ⟨hh1, fr1, V0, _, rfl⟩
  · refine E_ifF rfl (by rw [zb_F hb3]; rfl) ?_
    refine E_c rfl ?_
    exact E_rti rfl ⟨hh1, fr1, V0, _, rfl⟩
theorem tv_undo {h0 : pm_H} {d : Nat} (hh0 : HH h0) (hV : RV h0) : Sp (d + 40) 366 h0 [.ref 77] (VQ h0) := by
  refine Sp_of aiX9_undo rfl rfl rfl ?_
  have L0 : pm_get (lv_args 0 [.ref 77]) 0 = some (.ref 77) := rfl
  generalize lv_args 0 [.ref 77] = lv at L0 ⊢
  refine E_al rfl L0 ?_
  refine E_ci 0 rfl ci0 ?_
  refine E_pf rfl hh0 rfl ?_
  have hh1 : HH (pt h0 77 0 (nJ 0)) := HH_ptn hh0 rfl (by omega) (by omega) (by omega)
  have fr1 : fr_g VM h0 (pt h0 77 0 (nJ 0)) := fr_ptr (l := 0) (u := 0) rfl (by omega) (by omega) (fr_rf VM h0)
  have V0 : RV (pt h0 77 0 (nJ 0)) := RV_fr hh0 (M := [(77, 0, 0)]) rfl (fr_ptr (l := 0) (u := 0) rfl (by omega) (by omega) (fr_rf _ _)) hV
  refine E_al rfl L0 ?_
  refine E_call rfl (sp_isStreet hh1) (chk77 hh1 rfl rfl (by show 0 ≤ 8; decide)) (fun h2 r2 => ?_)
  rintro ⟨e2, f2⟩
  rw [e2, f2]
  show Ends _ _ (9, lv, [.int (zb (0 < (gi (pt h0 77 0 (nJ 0)) 83 0).toInt))], (pt h0 77 0 (nJ 0)), 0, 0) _
  by_cases hb3 : 0 < (gi (pt h0 77 0 (nJ 0)) 83 0).toInt
  · refine E_ifT rfl (by rw [zb_T hb3]; rfl) ?_
    refine E_al rfl L0 ?_
    refine E_gr rfl hh1 (q := 84) rfl ?_
    refine E_ci 5 rfl ci5 ?_
    have b4 : gn (pt h0 77 0 (nJ 0)) 84 5 ≤ 20 := gn_hi hh1 rfl (by decide)
    refine E_ial rfl hh1 rfl (by omega) (by decide) (gi_gn hh1 rfl (by decide)) ?_
    by_cases hb5 : ¬ (gn (pt h0 77 0 (nJ 0)) 84 5) = 0
    · refine E_ifT rfl (decide_eq_true (fun q => hb5 ((nJ_eq0 (by omega)).mp q))) ?_
      refine E_al rfl L0 ?_
      refine E_gr rfl hh1 (q := 84) rfl ?_
      refine E_ci 5 rfl ci5 ?_
      refine E_dup2 rfl rfl rfl ?_
      have b6 : gn (pt h0 77 0 (nJ 0)) 84 5 ≤ 20 := gn_hi hh1 rfl (by decide)
      refine E_ial rfl hh1 rfl (by omega) (by decide) (gi_gn hh1 rfl (by decide)) ?_
      refine E_ci 1 rfl ci1 ?_
      refine E_bin rfl (nJ_sub (by omega)) ?_
      refine E_ias rfl hh1 rfl (by omega) (by decide) ?_
      have hh7 : HH (pt (pt h0 77 0 (nJ 0)) 84 5 (nJ (((gn (pt h0 77 0 (nJ 0)) 84 5) - 1)))) := HH_ptn hh1 rfl (by omega) (by omega) (by omega)
      have fr7 : fr_g VM h0 (pt (pt h0 77 0 (nJ 0)) 84 5 (nJ (((gn (pt h0 77 0 (nJ 0)) 84 5) - 1)))) := fr_ptr (l := 0) (u := 29) rfl (by omega) (by omega) fr1
      have V3 : RV (pt (pt h0 77 0 (nJ 0)) 84 5 (nJ (((gn (pt h0 77 0 (nJ 0)) 84 5) - 1)))) := RV_less hh1 V0 (by rw [gn_ptn hh1 rfl (by omega) (by omega) (by omega)]; omega) (fun k hk => gn_ne (fun _ => hk)) (fun k => gn_ne (by first | exact gxx rfl | omega)) (fun k => gn_ne (by first | exact gxx rfl | omega))
      refine E_al rfl L0 ?_
      refine E_gr rfl hh7 (q := 84) rfl ?_
      refine E_ci 5 rfl ci5 ?_
      have b8 : gn (pt (pt h0 77 0 (nJ 0)) 84 5 (nJ (((gn (pt h0 77 0 (nJ 0)) 84 5) - 1)))) 84 5 ≤ 20 := gn_hi hh7 rfl (by decide)
      refine E_ial rfl hh7 rfl (by omega) (by decide) (gi_gn hh7 rfl (by decide)) ?_
      exact E_rti rfl ⟨hh7, fr7, V3, _, rfl⟩
    · refine E_ifF rfl (decide_eq_false (fun q => hb5 (fun z => q ((nJ_eq0 (by omega)).mpr z)))) ?_
      refine E_c rfl ?_
      exact E_rti rfl ⟨hh1, fr1, V0, _, rfl⟩
  · refine E_ifF rfl (by rw [zb_F hb3]; rfl) ?_
    refine E_c rfl ?_
    exact E_rti rfl ⟨hh1, fr1, V0, _, rfl⟩
theorem tv_anew {h0 : pm_H} {d : Nat} (hh0 : HH h0) (hV : RV h0) : Sp (d + 40) 207 h0 [.ref 77] (VQ h0) := by
  refine Sp_of aiX9_anew rfl rfl rfl ?_
  have L0 : pm_get (lv_args 0 [.ref 77]) 0 = some (.ref 77) := rfl
  generalize lv_args 0 [.ref 77] = lv at L0 ⊢
  refine E_al rfl L0 ?_
  refine E_ci 0 rfl ci0 ?_
  refine E_pf rfl hh0 rfl ?_
  have hh1 : HH (pt h0 77 0 (nJ 0)) := HH_ptn hh0 rfl (by omega) (by omega) (by omega)
  have fr1 : fr_g VM h0 (pt h0 77 0 (nJ 0)) := fr_ptr (l := 0) (u := 0) rfl (by omega) (by omega) (fr_rf VM h0)
  have V0 : RV (pt h0 77 0 (nJ 0)) := RV_fr hh0 (M := [(77, 0, 0)]) rfl (fr_ptr (l := 0) (u := 0) rfl (by omega) (by omega) (fr_rf _ _)) hV
  refine E_al rfl L0 ?_
  refine E_call rfl (sp_isStreet hh1) (chk77 hh1 rfl rfl (by show 0 ≤ 8; decide)) (fun h2 r2 => ?_)
  rintro ⟨e2, f2⟩
  rw [e2, f2]
  show Ends _ _ (9, lv, [.int (zb (0 < (gi (pt h0 77 0 (nJ 0)) 83 0).toInt))], (pt h0 77 0 (nJ 0)), 0, 0) _
  by_cases hb3 : 0 < (gi (pt h0 77 0 (nJ 0)) 83 0).toInt
  · refine E_ifT rfl (by rw [zb_T hb3]; rfl) ?_
    refine E_al rfl L0 ?_
    refine E_gr rfl hh1 (q := 84) rfl ?_
    refine E_ci 5 rfl ci5 ?_
    have b4 : gn (pt h0 77 0 (nJ 0)) 84 5 ≤ 20 := gn_hi hh1 rfl (by decide)
    refine E_ial rfl hh1 rfl (by omega) (by decide) (gi_gn hh1 rfl (by decide)) ?_
    refine E_is rfl (fun lv5 L5_1 kp5 => ?_)
    have L5_0 := kp5 0 _ (nbz rfl) rfl L0
    refine E_al rfl L5_0 ?_
    refine E_gr rfl hh1 (q := 84) rfl ?_
    refine E_ci 5 rfl ci5 ?_
    refine E_ci 0 rfl ci0 ?_
    refine E_ias rfl hh1 rfl (by omega) (by decide) ?_
    have hh6 : HH (pt (pt h0 77 0 (nJ 0)) 84 5 (nJ 0)) := HH_ptn hh1 rfl (by omega) (by omega) (by omega)
    have fr6 : fr_g VM h0 (pt (pt h0 77 0 (nJ 0)) 84 5 (nJ 0)) := fr_ptr (l := 0) (u := 29) rfl (by omega) (by omega) fr1
    have V3 : RV (pt (pt h0 77 0 (nJ 0)) 84 5 (nJ 0)) := RV_less hh1 V0 (by rw [gn_ptn hh1 rfl (by omega) (by omega) (by omega)]; omega) (fun k hk => gn_ne (fun _ => hk)) (fun k => gn_ne (by first | exact gxx rfl | omega)) (fun k => gn_ne (by first | exact gxx rfl | omega))
    refine E_il rfl L5_1 ?_
    exact E_rti rfl ⟨hh6, fr6, V3, _, rfl⟩
  · refine E_ifF rfl (by rw [zb_F hb3]; rfl) ?_
    refine E_c rfl ?_
    exact E_rti rfl ⟨hh1, fr1, V0, _, rfl⟩
theorem tv_rate {h0 : pm_H} {d : Nat} {x y : Int32} (hh0 : HH h0) (hV : RV h0) : Sp (d + 40) 329 h0 [.ref 77, .int x, .int y] (VQ h0) := by
  refine Sp_of aiX9_rate rfl rfl rfl ?_
  have L0 : pm_get (lv_args 0 [.ref 77, .int x, .int y]) 0 = some (.ref 77) := rfl
  have L1 : pm_get (lv_args 0 [.ref 77, .int x, .int y]) 1 = some (.int x) := rfl
  have L2 : pm_get (lv_args 0 [.ref 77, .int x, .int y]) 2 = some (.int y) := rfl
  generalize lv_args 0 [.ref 77, .int x, .int y] = lv at L0 L1 L2 ⊢
  refine E_al rfl L0 ?_
  refine E_ci 0 rfl ci0 ?_
  refine E_pf rfl hh0 rfl ?_
  have hh1 : HH (pt h0 77 0 (nJ 0)) := HH_ptn hh0 rfl (by omega) (by omega) (by omega)
  have fr1 : fr_g VM h0 (pt h0 77 0 (nJ 0)) := fr_ptr (l := 0) (u := 0) rfl (by omega) (by omega) (fr_rf VM h0)
  have V0 : RV (pt h0 77 0 (nJ 0)) := RV_fr hh0 (M := [(77, 0, 0)]) rfl (fr_ptr (l := 0) (u := 0) rfl (by omega) (by omega) (fr_rf _ _)) hV
  refine E_al rfl L0 ?_
  refine E_il rfl L1 ?_
  refine E_i2l rfl ?_
  refine E_call rfl (sp_isCar hh1) (chk77 hh1 rfl rfl (by show 0 ≤ 8; decide)) (fun h2 r2 => ?_)
  rintro ⟨e2, f2⟩
  rw [e2, f2]
  show Ends _ _ (11, lv, [.int (zb (0 ≤ x.toInt ∧ x.toInt ≤ (gn (pt h0 77 0 (nJ 0)) 84 3 : Int) - 1))], (pt h0 77 0 (nJ 0)), 0, 0) _
  by_cases hb3 : ¬ (0 ≤ x.toInt ∧ x.toInt ≤ (gn (pt h0 77 0 (nJ 0)) 84 3 : Int) - 1)
  · refine E_ifT rfl (by rw [zb_F hb3]; rfl) ?_
    refine E_c rfl ?_
    exact E_rti rfl ⟨hh1, fr1, V0, _, rfl⟩
  · refine E_ifF rfl (by rw [zb_T (Classical.not_not.mp hb3)]; rfl) ?_
    have hcar := Classical.not_not.mp hb3
    refine E_il rfl L2 ?_
    refine E_i2l rfl ?_
    refine E_c rfl ?_
    refine E_c rfl ?_
    refine E_call rfl (sp_in (a := y.toInt) (b := 0) (c := 99) (i2l_toInt _) rfl rfl) (chkS rfl (by show 0 ≤ 8; decide)) (fun h4 r4 => ?_)
    rintro ⟨e4, f4⟩
    rw [e4, f4]
    show Ends _ _ (23, lv, [.int (zb (0 ≤ y.toInt ∧ y.toInt ≤ 99))], (pt h0 77 0 (nJ 0)), 0, 0) _
    by_cases hb5 : 0 ≤ y.toInt ∧ y.toInt ≤ 99
    · refine E_ifT rfl (by rw [zb_T hb5]; rfl) ?_
      have hC8 : gn (pt h0 77 0 (nJ 0)) 84 3 ≤ 8 := gn_hi hh1 rfl (by decide)
      obtain ⟨k, hk, rfl⟩ := nJ_of2 (n := gn (pt h0 77 0 (nJ 0)) 84 3 - 1) hcar.1 (by have := hcar.2; have := hcar.1; omega)
      obtain ⟨n, hn, rfl⟩ := nJ_of2 (n := 99) (x := y) hb5.1 hb5.2
      refine E_al rfl L0 ?_
      refine E_gr rfl hh1 (q := 84) rfl ?_
      refine E_ci 5 rfl ci5 ?_
      have b6 : gn (pt h0 77 0 (nJ 0)) 84 5 ≤ 20 := gn_hi hh1 rfl (by decide)
      refine E_ial rfl hh1 rfl (by omega) (by decide) (gi_gn hh1 rfl (by decide)) ?_
      by_cases hb7 : (gn (pt h0 77 0 (nJ 0)) 84 5) = 0
      · refine E_ifT rfl (decide_eq_true ((nJ_le0 (by omega)).mpr hb7)) ?_
        refine E_al rfl L0 ?_
        refine E_gr rfl hh1 (q := 85) rfl ?_
        refine E_ci 2 rfl ci2 ?_
        refine E_il rfl L1 ?_
        refine E_bin rfl (nJ_mul _ _) ?_
        refine E_ci 1 rfl ci1 ?_
        refine E_bin rfl (nJ_add _ _) ?_
        refine E_ial rfl hh1 rfl (by omega) (by decide) (show gi (pt h0 77 0 (nJ 0)) 85 (((2 * k) + 1)) = (gi (pt h0 77 0 (nJ 0)) 85 (((2 * k) + 1))) from rfl) ?_
        refine E_is rfl (fun lv8 L8_3 kp8 => ?_)
        have L8_0 := kp8 0 _ (nbz rfl) rfl L0
        have L8_1 := kp8 1 _ (nbz rfl) rfl L1
        have L8_2 := kp8 2 _ (nbz rfl) rfl L2
        refine E_al rfl L8_0 ?_
        refine E_gr rfl hh1 (q := 85) rfl ?_
        refine E_ci 2 rfl ci2 ?_
        refine E_il rfl L8_1 ?_
        refine E_bin rfl (nJ_mul _ _) ?_
        refine E_ci 1 rfl ci1 ?_
        refine E_bin rfl (nJ_add _ _) ?_
        refine E_il rfl L8_2 ?_
        refine E_ias rfl hh1 rfl (by omega) (by decide) ?_
        have hh9 : HH (pt (pt h0 77 0 (nJ 0)) 85 (((2 * k) + 1)) (nJ n)) := HH_ptn hh1 (bd_85o (by omega) (by omega)) (by omega) (by omega) (by omega)
        have fr9 : fr_g VM h0 (pt (pt h0 77 0 (nJ 0)) 85 (((2 * k) + 1)) (nJ n)) := fr_ptr (l := 0) (u := 79) rfl (by omega) (by omega) fr1
        have V3 : RV (pt (pt h0 77 0 (nJ 0)) 85 (((2 * k) + 1)) (nJ n)) := by
          refine ⟨fun r hr => RI_eq (V0.1 r hr) (fun k => gn_ne (by first | exact gxx rfl | omega)) (fun c => gn_ne (fun _ => by omega)) (fun k => gn_ne (by first | exact gxx rfl | omega)), fun r hr => FAg_copy (fun k _ => gn_ne (by first | exact gxx rfl | omega)) (V0.2 r hr)⟩
        refine E_il rfl L8_3 ?_
        exact E_rti rfl ⟨hh9, fr9, V3, _, rfl⟩
      · refine E_ifF rfl (decide_eq_false (fun q => hb7 ((nJ_le0 (by omega)).mp q))) ?_
        refine E_c rfl ?_
        exact E_rti rfl ⟨hh1, fr1, V0, _, rfl⟩
    · refine E_ifF rfl (by rw [zb_F hb5]; rfl) ?_
      refine E_c rfl ?_
      exact E_rti rfl ⟨hh1, fr1, V0, _, rfl⟩
theorem tv_image {h0 : pm_H} {d : Nat} {x : Int32} (hh0 : HH h0) (hV : RV h0) : Sp (d + 40) 260 h0 [.ref 77, .int x] (fun h' r => HH h' ∧ fr_g VMI h0 h' ∧ RV h' ∧ r = some (.int (imv x)) ∧ ∀ j, j < 3 → gi h' 88 j = if x = nJ j then 1 else gi h0 88 j) := by
  refine Sp_of aiX9_image rfl rfl rfl ?_
  have L0 : pm_get (lv_args 0 [.ref 77, .int x]) 0 = some (.ref 77) := rfl
  have L1 : pm_get (lv_args 0 [.ref 77, .int x]) 1 = some (.int x) := rfl
  generalize lv_args 0 [.ref 77, .int x] = lv at L0 L1 ⊢
  refine E_al rfl L0 ?_
  refine E_ci 0 rfl ci0 ?_
  refine E_pf rfl hh0 rfl ?_
  have hh1 : HH (pt h0 77 0 (nJ 0)) := HH_ptn hh0 rfl (by omega) (by omega) (by omega)
  have fr1 : fr_g VMI h0 (pt h0 77 0 (nJ 0)) := fr_ptr (l := 0) (u := 0) rfl (by omega) (by omega) (fr_rf VMI h0)
  have V0 : RV (pt h0 77 0 (nJ 0)) := RV_fr hh0 (M := [(77, 0, 0)]) rfl (fr_ptr (l := 0) (u := 0) rfl (by omega) (by omega) (fr_rf _ _)) hV
  refine E_il rfl L1 ?_
  refine E_i2l rfl ?_
  refine E_c rfl ?_
  refine E_c rfl ?_
  refine E_call rfl (sp_in (a := x.toInt) (b := 0) (c := 2) (i2l_toInt _) rfl rfl) (chkS rfl (by show 0 ≤ 8; decide)) (fun h2 r2 => ?_)
  rintro ⟨e2, f2⟩
  rw [e2, f2]
  show Ends _ _ (14, lv, [.int (zb (0 ≤ x.toInt ∧ x.toInt ≤ 2))], (pt h0 77 0 (nJ 0)), 0, 0) _
  by_cases hb3 : 0 ≤ x.toInt ∧ x.toInt ≤ 2
  · refine E_ifT rfl (by rw [zb_T hb3]; rfl) ?_
    obtain ⟨k, hk, rfl⟩ := nJ_of2 (n := 2) hb3.1 hb3.2
    refine E_al rfl L0 ?_
    refine E_ci 0 rfl ci0 ?_
    refine E_ci 1 rfl ci1 ?_
    refine E_il rfl L1 ?_
    refine E_bin rfl (nJ_add _ _) ?_
    refine E_call rfl (Sp_le (by first | exact Nat.add_le_add_left (Nat.le_of_ble_eq_true rfl) _ | exact Nat.le_of_ble_eq_true rfl | omega) (sp_copyStreet (d := 0) hh1 (by omega) (by omega) (by omega))) (chk77 hh1 rfl rfl (by show 0 ≤ 8; decide)) (fun h4 r4 => ?_)
    rintro ⟨e4, hh4, fq4, ka4, kb4, kc4, kd4⟩
    rw [e4]
    have fr4 : fr_g VMI h0 h4 := fr_trans fr1 (fr_wk rfl fq4)
    have V4 : RV h4 := ⟨fun r hr => if e : r = (1 + k) then (by rw [e]; exact ka4 (V0.1 _ (by omega))) else kc4 r (by omega) e (V0.1 r hr), fun r hr => if e : r = (1 + k) then (by rw [e]; exact kb4 (V0.2 _ (by omega))) else kd4 r (by omega) e (V0.2 r hr)⟩
    show Ends _ _ (28, lv, [], h4, 0, 0) _
    refine E_al rfl L0 ?_
    refine E_gr rfl hh4 (q := 88) rfl ?_
    refine E_il rfl L1 ?_
    refine E_ci 1 rfl ci1 ?_
    refine E_zas rfl hh4 (by omega) ?_
    have hh5 : HH (pt h4 88 k 1) := HH_pt hh4 (bd_u rfl (by omega)) (by decide) (by decide)
    have fr5 : fr_g VMI h0 (pt h4 88 k 1) := fr_ptr (l := 0) (u := 2) rfl (by omega) (by omega) fr4
    have V5 : RV (pt h4 88 k 1) := RV_fr hh4 (M := [(88, 0, 2)]) rfl (fr_ptr (l := 0) (u := 2) rfl (by omega) (by omega) (fr_rf _ _)) V4
    refine E_ci 0 rfl ci0 ?_
    exact E_rti rfl ⟨hh5, fr5, V5, by rw [imv_in hb3]; rfl, kp_in hh4 rfl (by omega) (fun j => by rw [fr_gi fq4 (rg_no rfl _), gi_ne (by first | exact gxx rfl | omega)])⟩
  · refine E_ifF rfl (by rw [zb_F hb3]; rfl) ?_
    refine E_c rfl ?_
    exact E_rti rfl ⟨hh1, fr1, V0, by rw [imv_no hb3], kp_out hb3 (fun j => gi_ne (by first | exact gxx rfl | omega))⟩
theorem tv_back {h0 : pm_H} {d : Nat} {x : Int32} (hh0 : HH h0) (hV : RV h0) : Sp (d + 40) 212 h0 [.ref 77, .int x] (fun h' r => HH h' ∧ fr_g VM h0 h' ∧ RV h' ∧ r = some (.int (bkv 88 h0 x))) := by
  refine Sp_of aiX9_back rfl rfl rfl ?_
  have L0 : pm_get (lv_args 0 [.ref 77, .int x]) 0 = some (.ref 77) := rfl
  have L1 : pm_get (lv_args 0 [.ref 77, .int x]) 1 = some (.int x) := rfl
  generalize lv_args 0 [.ref 77, .int x] = lv at L0 L1 ⊢
  refine E_al rfl L0 ?_
  refine E_ci 0 rfl ci0 ?_
  refine E_pf rfl hh0 rfl ?_
  have hh1 : HH (pt h0 77 0 (nJ 0)) := HH_ptn hh0 rfl (by omega) (by omega) (by omega)
  have fr1 : fr_g VM h0 (pt h0 77 0 (nJ 0)) := fr_ptr (l := 0) (u := 0) rfl (by omega) (by omega) (fr_rf VM h0)
  have V0 : RV (pt h0 77 0 (nJ 0)) := RV_fr hh0 (M := [(77, 0, 0)]) rfl (fr_ptr (l := 0) (u := 0) rfl (by omega) (by omega) (fr_rf _ _)) hV
  refine E_il rfl L1 ?_
  refine E_i2l rfl ?_
  refine E_c rfl ?_
  refine E_c rfl ?_
  refine E_call rfl (sp_in (a := x.toInt) (b := 0) (c := 2) (i2l_toInt _) rfl rfl) (chkS rfl (by show 0 ≤ 8; decide)) (fun h2 r2 => ?_)
  rintro ⟨e2, f2⟩
  rw [e2, f2]
  show Ends _ _ (14, lv, [.int (zb (0 ≤ x.toInt ∧ x.toInt ≤ 2))], (pt h0 77 0 (nJ 0)), 0, 0) _
  by_cases hb3 : 0 ≤ x.toInt ∧ x.toInt ≤ 2
  · refine E_ifT rfl (by rw [zb_T hb3]; rfl) ?_
    obtain ⟨k, hk, rfl⟩ := nJ_of2 (n := 2) hb3.1 hb3.2
    refine E_al rfl L0 ?_
    refine E_gr rfl hh1 (q := 88) rfl ?_
    refine E_il rfl L1 ?_
    refine E_zal rfl hh1 (by omega) ?_
    by_cases hb4 : ¬ (gi (pt h0 77 0 (nJ 0)) 88 k) = 0
    · refine E_ifT rfl (decide_eq_true hb4) ?_
      refine E_al rfl L0 ?_
      refine E_ci 1 rfl ci1 ?_
      refine E_il rfl L1 ?_
      refine E_bin rfl (nJ_add _ _) ?_
      refine E_ci 0 rfl ci0 ?_
      refine E_call rfl (Sp_le (by first | exact Nat.add_le_add_left (Nat.le_of_ble_eq_true rfl) _ | exact Nat.le_of_ble_eq_true rfl | omega) (sp_copyStreet (d := 0) hh1 (by omega) (by omega) (by omega))) (chk77 hh1 rfl rfl (by show 0 ≤ 8; decide)) (fun h5 r5 => ?_)
      rintro ⟨e5, hh5, fq5, ka5, kb5, kc5, kd5⟩
      rw [e5]
      have fr5 : fr_g VM h0 h5 := fr_trans fr1 (fr_wk rfl fq5)
      have V5 : RV h5 := ⟨fun r hr => if e : r = 0 then (by rw [e]; exact ka5 (V0.1 _ (by omega))) else kc5 r (by omega) e (V0.1 r hr), fun r hr => if e : r = 0 then (by rw [e]; exact kb5 (V0.2 _ (by omega))) else kd5 r (by omega) e (V0.2 r hr)⟩
      show Ends _ _ (40, lv, [], h5, 0, 0) _
      refine E_ci 0 rfl ci0 ?_
      exact E_rti rfl ⟨hh5, fr5, V5, by rw [bkv_0 (by omega) (by have q := hb4; rw [gi_ne (by first | exact gxx rfl | omega)] at q; exact q)]; rfl⟩
    · refine E_ifF rfl (decide_eq_false hb4) ?_
      refine E_c rfl ?_
      exact E_rti rfl ⟨hh1, fr1, V0, by rw [bkv_6 (by omega) (by have q := Classical.not_not.mp hb4; rw [gi_ne (by first | exact gxx rfl | omega)] at q; exact q)]⟩
  · refine E_ifF rfl (by rw [zb_F hb3]; rfl) ?_
    refine E_c rfl ?_
    exact E_rti rfl ⟨hh1, fr1, V0, by rw [bkv_no hb3]⟩
end
section
/-! by hand: street (written by gen_t19.py) -/
theorem bd_84r : ∀ k : Fin 6, (match bd 84 (24 + k.val) with | some q => decide (q.1 ≤ 0) && decide (0 ≤ q.2) | none => false) = true := by decide +kernel
theorem bd_84e {k : Nat} (hk : k < 6) : ∃ q, bd 84 (24 + k) = some q ∧ q.1 ≤ 0 ∧ 0 ≤ q.2 := by
  have h := bd_84r ⟨k, hk⟩
  dsimp only at h
  cases hb : bd 84 (24 + k) with
  | none => rw [hb] at h; cases h
  | some q =>
    rw [hb] at h
    simp only [Bool.and_eq_true, decide_eq_true_eq] at h
    exact ⟨q, rfl, h.1, h.2⟩
noncomputable def ZM : List Rng := [(83, 4, 4), (84, 24, 29)]
theorem cl_loop {h0 : pm_H} {d : Nat} (j : Nat) : ∀ {h : pm_H} {k : Nat} (lv : List (Nat × Value)), k + j = 6 → HH h → fr_g ZM h0 h → gi h 83 4 = nJ 0 → (∀ i, i < k → gn h 84 (24 + i) = 0) → pm_get lv 0 = some (.ref 77) → pm_get lv 1 = some (.int (nJ k)) → Ends (pm_at tX9_clears) (pm_Rt pm_P (d + 1)) (9, lv, [], h, 0, 0) (fun h' r => r = none ∧ HH h' ∧ fr_g ZM h0 h' ∧ gi h' 83 4 = nJ 0 ∧ ∀ i, i < 6 → gn h' 84 (24 + i) = 0) := by
  induction j with
  | zero =>
    intro h k lv hj hh hfr h83 hz L0 L1
    refine E_il rfl L1 ?_
    refine E_ci 6 rfl ci6 ?_
    refine E_icT rfl (decide_eq_true ((nJ_le (by omega) (by omega)).mpr (by omega))) ?_
    exact E_ret rfl ⟨rfl, hh, hfr, h83, fun i hi => hz i (by omega)⟩
  | succ j ih =>
    intro h k lv hj hh hfr h83 hz L0 L1
    refine E_il rfl L1 ?_
    refine E_ci 6 rfl ci6 ?_
    refine E_icF rfl (decide_eq_false (fun q => absurd ((nJ_le (by omega) (by omega)).mp q) (by omega))) ?_
    refine E_al rfl L0 ?_
    refine E_il rfl L1 ?_
    refine E_ci 0 rfl ci0 ?_
    obtain ⟨q, hq, q1, q2⟩ := bd_84e (k := k) (by omega)
    refine E_call rfl (sp_tells hh (by omega)) (chk77 hh rfl rfl (by show 0 ≤ 8; decide)) (fun h1 r1 => ?_)
    rintro ⟨e1, f1⟩
    have hhq : HH (pt h 84 (24 + k) (nJ 0)) := HH_pt hh hq (by show q.1 ≤ 0; exact q1) (by show 0 ≤ q.2; exact q2)
    rw [e1, f1]
    show Ends _ _ (21, lv, [], (pt h 84 (24 + k) (nJ 0)), 0, 0) _
    refine E_inc rfl L1 (nJ_inc _) (fun lv2 L2_1 kp2 => ?_)
    have L2_0 := kp2 0 _ (nbz rfl) rfl L0
    refine E_goto rfl ?_
    refine ih lv2 (by omega) hhq (fr_ptr (l := 24) (u := 29) rfl (by omega) (by omega) hfr) (by rw [gi_ne (by first | exact gxx rfl | omega)]; exact h83) (fun i hi => ?_) L2_0 L2_1
    by_cases e : i = k
    · rw [e]; exact gn_of (gi_pt hh hq (by show q.1 ≤ 0; exact q1) (by show 0 ≤ q.2; exact q2)) (by omega)
    · rw [gn_ne (fun _ => by omega)]; exact hz i (by omega)
end
