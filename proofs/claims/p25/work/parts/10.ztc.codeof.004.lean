section
theorem rf_cars {h0 : pm_H} {d P C s : Nat} (hh0 : HH h0) (hP : gn h0 84 0 = P) (hC : gn h0 84 3 = C) (hP8 : P ≤ 8) (hCP : C ≤ P) (hs : s ≤ 8) (hw : ∀ c, c < C → 1 ≤ gn h0 89 c) (j : Nat) : ∀ {h : pm_H} {c : Nat} (lv : List (Nat × Value)), c + j = C → RF h0 h P c → pm_get lv 0 = some (.ref 77) → pm_get lv 1 = some (.int (nJ s)) → pm_get lv 2 = some (.int (nJ (P + 1))) → pm_get lv 3 = some (.int (nJ c)) → Ends (pm_at tX9_ringFree) (pm_Rt pm_P (d + 2)) (30, lv, [], h, 0, 0) (fun h' r => HH h' ∧ fr_g QM h0 h' ∧ ∃ x : Int32, r = some (.int x)) := by
  induction j with
  | zero =>
    intro h c lv hj R L0 L1 L2 L3
    have hce : gn h 84 3 = C := by rw [fr_gn R.2.1 (rg_no rfl _)]; exact hC
    refine E_il rfl L3 ?_
    refine E_al rfl L0 ?_
    refine E_call rfl (sp_cars R.1) (chk77 R.1 rfl rfl (by show 1 ≤ 8; decide)) (fun h1 r1 => ?_)
    rintro ⟨e1, f1, c1⟩
    rw [e1, f1]
    show Ends _ _ (35, lv, [.int (nJ (gn h 84 3)), .int (nJ c)], h, 0, 0) _
    refine E_icT rfl (decide_eq_true ((nJ_le (by omega) (by omega)).mpr (by omega))) ?_
    refine E_ci 1 rfl (by decide) ?_
    refine E_is rfl (fun lv2 L2_3 kp2 => ?_)
    have L2_0 := kp2 0 _ (by decide) rfl L0
    have L2_1 := kp2 1 _ (by decide) rfl L1
    have L2_2 := kp2 2 _ (by decide) rfl L2
    exact rf_last hP8 R.1 R.2.1 (P + 1) (p := 1) lv2 (by omega) L2_0 L2_2 L2_3
  | succ j ih =>
    intro h c lv hj R L0 L1 L2 L3
    have hce : gn h 84 3 = C := by rw [fr_gn R.2.1 (rg_no rfl _)]; exact hC
    have hpe : gn h 84 0 = P := by rw [fr_gn R.2.1 (rg_no rfl _)]; exact hP
    refine E_il rfl L3 ?_
    refine E_al rfl L0 ?_
    refine E_call rfl (sp_cars R.1) (chk77 R.1 rfl rfl (by show 1 ≤ 8; decide)) (fun h1 r1 => ?_)
    rintro ⟨e1, f1, c1⟩
    rw [e1, f1]
    show Ends _ _ (35, lv, [.int (nJ (gn h 84 3)), .int (nJ c)], h, 0, 0) _
    refine E_icF rfl (decide_eq_false (fun q => absurd ((nJ_le (by omega) (by omega)).mp q) (by omega))) ?_
    refine E_al rfl L0 ?_
    refine E_il rfl L3 ?_
    refine E_il rfl L1 ?_
    have hwc : gn h 89 c = gn h0 89 c := fr_gn R.2.1 (rg_no rfl _)
    refine E_call rfl (Sp_le (by omega) (sp_shiftedOf (d := 0) R.1 (by omega) hs (by rw [hwc]; exact hw c (by omega)))) (chk77 R.1 rfl rfl (by show 0 ≤ 8; decide)) (fun h2 r2 => ?_)
    rintro ⟨e2, f2⟩
    rw [e2, f2, hpe]
    obtain ⟨v, hv⟩ : ∃ v, v = (gn h 89 c - 1 + s) % (P + 1) + 1 := ⟨_, rfl⟩
    have hmd := Nat.mod_lt (gn h 89 c - 1 + s) (show 0 < P + 1 by omega)
    rw [← hv]
    show Ends _ _ (44, lv, [.int (nJ v)], h, 0, 0) _
    refine E_is rfl (fun lv3 L3_4 kp3 => ?_)
    have L3_0 := kp3 0 _ (by decide) rfl L0
    have L3_1 := kp3 1 _ (by decide) rfl L1
    have L3_2 := kp3 2 _ (by decide) rfl L2
    have L3_3 := kp3 3 _ (by decide) rfl L3
    exact rf_in hP8 (by omega) R (fun lv' R' a b c e => ih lv' (by omega) R' a b c e) P lv3 (by omega) (by omega) (hfd_free (R := P + 1) (by omega) (by have := R.2.2; omega) (by omega) (by omega)) L3_0 L3_1 L3_2 L3_3 L3_4
theorem rf_zero {h0 : pm_H} {d P C s : Nat} (hh0 : HH h0) (hP : gn h0 84 0 = P) (hC : gn h0 84 3 = C) (hP8 : P ≤ 8) (hCP : C ≤ P) (hs : s ≤ 8) (hw : ∀ c, c < C → 1 ≤ gn h0 89 c) (j : Nat) : ∀ {h : pm_H} {p : Nat} (lv : List (Nat × Value)), p + j = 10 → HH h → fr_g QM h0 h → (∀ q, q < p → gi h 90 q = -1) → pm_get lv 0 = some (.ref 77) → pm_get lv 1 = some (.int (nJ s)) → pm_get lv 2 = some (.int (nJ (P + 1))) → pm_get lv 3 = some (.int (nJ p)) → Ends (pm_at tX9_ringFree) (pm_Rt pm_P (d + 2)) (9, lv, [], h, 0, 0) (fun h' r => HH h' ∧ fr_g QM h0 h' ∧ ∃ x : Int32, r = some (.int x)) := by
  induction j with
  | zero =>
    intro h p lv hj hh hfr hz L0 L1 L2 L3
    refine E_il rfl L3 ?_
    refine E_ci 10 rfl (by decide) ?_
    refine E_icT rfl (decide_eq_true ((nJ_le (by omega) (by omega)).mpr (by omega))) ?_
    refine E_ci 0 rfl (by decide) ?_
    refine E_is rfl (fun lv1 L1_3 kp1 => ?_)
    have L1_0 := kp1 0 _ (by decide) rfl L0
    have L1_1 := kp1 1 _ (by decide) rfl L1
    have L1_2 := kp1 2 _ (by decide) rfl L2
    exact rf_cars hh0 hP hC hP8 hCP hs hw C (c := 0) lv1 (by omega) ⟨hh, hfr, by rw [cntf_zero (fun q _ h2 => hq_m1.mp (hz q (by omega)))]; omega⟩ L1_0 L1_1 L1_2 L1_3
  | succ j ih =>
    intro h p lv hj hh hfr hz L0 L1 L2 L3
    refine E_il rfl L3 ?_
    refine E_ci 10 rfl (by decide) ?_
    refine E_icF rfl (decide_eq_false (fun q => absurd ((nJ_le (by omega) (by omega)).mp q) (by omega))) ?_
    refine E_al rfl L0 ?_
    refine E_gr rfl hh (q := 90) rfl ?_
    refine E_il rfl L3 ?_
    refine E_c rfl ?_
    refine E_ias rfl hh rfl (by omega) (by decide) ?_
    have hh1 : HH (pt h 90 p (-1)) := HH_pt hh (bd_u rfl (by omega)) (by decide) (by decide)
    refine E_inc rfl L3 (nJ_inc _) (fun lv2 L2_3 kp2 => ?_)
    have L2_0 := kp2 0 _ (by decide) rfl L0
    have L2_1 := kp2 1 _ (by decide) rfl L1
    have L2_2 := kp2 2 _ (by decide) rfl L2
    refine E_goto rfl ?_
    refine ih lv2 (by omega) hh1 (fr_ptr (l := 0) (u := 9) rfl (by omega) (by omega) hfr) (fun q hq1 => ?_) L2_0 L2_1 L2_2 L2_3
    by_cases e : q = p
    · rw [e]; exact gi_pt hh (bd_u rfl (by omega)) (by decide) (by decide)
    · rw [gi_ne (fun _ => e)]; exact hz q (by omega)
theorem sp_ringFree {h0 : pm_H} {d s : Nat} (hh : HH h0) (hCP : gn h0 84 3 ≤ gn h0 84 0) (hs : s ≤ 8) (hw : ∀ c, c < gn h0 84 3 → 1 ≤ gn h0 89 c) : Sp (d + 3) 336 h0 [.ref 77, .int (nJ s)] (fun h' r => HH h' ∧ fr_g QM h0 h' ∧ ∃ x : Int32, r = some (.int x)) := by
  refine Sp_of aiX9_ringFree rfl rfl rfl ?_
  refine E_al rfl (show pm_get (lv_args 0 [.ref 77, .int (nJ s)]) 0 = _ from rfl) ?_
  refine E_call rfl (sp_places hh) (chk77 hh rfl rfl (by show 0 ≤ 8; decide)) (fun h1 r1 => ?_)
  rintro ⟨e1, f1, c1⟩
  rw [e1, f1]
  show Ends _ _ (4, (lv_args 0 [.ref 77, .int (nJ s)]), [.int (nJ (gn h0 84 0))], h0, 0, 0) _
  refine E_ci 1 rfl (by decide) ?_
  refine E_bin rfl (nJ_add _ _) ?_
  refine E_is rfl (fun lv2 L2_2 kp2 => ?_)
  have L2_0 := kp2 0 _ (by decide) rfl (show pm_get (lv_args 0 [.ref 77, .int (nJ s)]) 0 = _ from rfl)
  have L2_1 := kp2 1 _ (by decide) rfl (show pm_get (lv_args 0 [.ref 77, .int (nJ s)]) 1 = _ from rfl)
  refine E_ci 0 rfl (by decide) ?_
  refine E_is rfl (fun lv3 L3_3 kp3 => ?_)
  have L3_0 := kp3 0 _ (by decide) rfl L2_0
  have L3_1 := kp3 1 _ (by decide) rfl L2_1
  have L3_2 := kp3 2 _ (by decide) rfl L2_2
  exact rf_zero hh rfl rfl (by omega) hCP hs hw 10 (p := 0) lv3 (by omega) hh (fr_rf _ _) (fun q hq1 => absurd hq1 (Nat.not_lt_zero _)) L3_0 L3_1 L3_2 L3_3
theorem tp_ring {h0 : pm_H} {d : Nat} {x : Int32} (hh0 : HH h0) (hR : RI 0 h0) : Sp (d + 30) 335 h0 [.ref 77, .int x] (TQ h0) := by
  refine Sp_of aiX9_ring rfl rfl rfl ?_
  have L0 : pm_get (lv_args 0 [.ref 77, .int x]) 0 = some (.ref 77) := rfl
  have L1 : pm_get (lv_args 0 [.ref 77, .int x]) 1 = some (.int x) := rfl
  generalize lv_args 0 [.ref 77, .int x] = lv at L0 L1 ⊢
  refine E_al rfl L0 ?_
  refine E_ci 0 rfl (by decide) ?_
  refine E_pf rfl hh0 rfl ?_
  have hh1 : HH (pt h0 77 0 (nJ 0)) := HH_ptn hh0 rfl (by omega) (by omega) (by omega)
  have fr1 : fr_g TM h0 (pt h0 77 0 (nJ 0)) := fr_ptr (l := 0) (u := 0) rfl (by omega) (by omega) (fr_rf TM h0)
  refine E_al rfl L0 ?_
  refine E_il rfl L1 ?_
  refine E_i2l rfl ?_
  refine E_call rfl (sp_isCar hh1) (chk77 hh1 rfl rfl (by show 0 ≤ 8; decide)) (fun h2 r2 => ?_)
  rintro ⟨e2, f2⟩
  rw [e2, f2]
  show Ends _ _ (11, lv, [.int (zb (0 ≤ x.toInt ∧ x.toInt ≤ (gn (pt h0 77 0 (nJ 0)) 84 3 : Int) - 1))], (pt h0 77 0 (nJ 0)), 0, 0) _
  by_cases hb3 : 0 ≤ x.toInt ∧ x.toInt ≤ (gn (pt h0 77 0 (nJ 0)) 84 3 : Int) - 1
  · refine E_ifT rfl (by rw [zb_T hb3]; rfl) ?_
    have hC8 : gn (pt h0 77 0 (nJ 0)) 84 3 ≤ 8 := gn_hi hh1 rfl (by decide)
    obtain ⟨k, hk, rfl⟩ := nJ_of2 (n := gn (pt h0 77 0 (nJ 0)) 84 3 - 1) hb3.1 (by have := hb3.2; have := hb3.1; omega)
    have hk2 : k < gn (pt h0 77 0 (nJ 0)) 84 3 := by have h9 := hb3.2; have h8 := hb3.1; rw [nJ_toInt (by omega)] at h9; omega
    refine E_al rfl L0 ?_
    refine E_call rfl (Sp_le (by omega) (sp_lays (d := 0) hh1 (RI_fr hR rfl fr1))) (chk77 hh1 rfl rfl (by show 0 ≤ 8; decide)) (fun h4 r4 => ?_)
    rintro ⟨e4, hh4, fq4, wq4⟩
    rw [e4]
    have fr4 : fr_g TM h0 h4 := fr_trans fr1 (fr_wk rfl fq4)
    show Ends _ _ (21, lv, [], h4, 0, 0) _
    refine E_al rfl L0 ?_
    refine E_ci 0 rfl (by decide) ?_
    refine E_call rfl (Sp_le (by omega) (sp_ringFree (d := 0) hh4 (RI_fr hR rfl fr4).1 (by omega) wq4)) (chk77 hh4 rfl rfl (by show 0 ≤ 8; decide)) (fun h5 r5 => ?_)
    rintro ⟨hh5, fq5, x5, f5⟩
    rw [f5]
    have fr5 : fr_g TM h0 h5 := fr_trans fr4 (fr_wk rfl fq5)
    have pe5 : gn h5 84 0 = gn h4 84 0 := fr_gn fq5 (rg_no rfl _)
    show Ends _ _ (26, lv, [.int x5], h5, 0, 0) _
    refine E_pop rfl rfl ?_
    refine E_al rfl L0 ?_
    refine E_gr rfl hh5 (q := 91) rfl ?_
    refine E_il rfl L1 ?_
    refine E_ial rfl hh5 rfl (by omega) (by decide) (show gi h5 91 k = (gi h5 91 k) from rfl) ?_
    exact E_rti rfl ⟨hh5, fr5, _, rfl⟩
  · refine E_ifF rfl (by rw [zb_F hb3]; rfl) ?_
    refine E_c rfl ?_
    exact E_rti rfl ⟨hh1, fr1, _, rfl⟩
theorem tp_hole {h0 : pm_H} {d : Nat} (hh0 : HH h0) (hR : RI 0 h0) : Sp (d + 30) 259 h0 [.ref 77] (TQ h0) := by
  refine Sp_of aiX9_hole rfl rfl rfl ?_
  have L0 : pm_get (lv_args 0 [.ref 77]) 0 = some (.ref 77) := rfl
  generalize lv_args 0 [.ref 77] = lv at L0 ⊢
  refine E_al rfl L0 ?_
  refine E_ci 0 rfl (by decide) ?_
  refine E_pf rfl hh0 rfl ?_
  have hh1 : HH (pt h0 77 0 (nJ 0)) := HH_ptn hh0 rfl (by omega) (by omega) (by omega)
  have fr1 : fr_g TM h0 (pt h0 77 0 (nJ 0)) := fr_ptr (l := 0) (u := 0) rfl (by omega) (by omega) (fr_rf TM h0)
  refine E_al rfl L0 ?_
  refine E_call rfl (sp_isStreet hh1) (chk77 hh1 rfl rfl (by show 0 ≤ 8; decide)) (fun h2 r2 => ?_)
  rintro ⟨e2, f2⟩
  rw [e2, f2]
  show Ends _ _ (9, lv, [.int (zb (0 < (gi (pt h0 77 0 (nJ 0)) 83 0).toInt))], (pt h0 77 0 (nJ 0)), 0, 0) _
  by_cases hb3 : 0 < (gi (pt h0 77 0 (nJ 0)) 83 0).toInt
  · refine E_ifT rfl (by rw [zb_T hb3]; rfl) ?_
    refine E_al rfl L0 ?_
    refine E_call rfl (Sp_le (by omega) (sp_lays (d := 0) hh1 (RI_fr hR rfl fr1))) (chk77 hh1 rfl rfl (by show 0 ≤ 8; decide)) (fun h4 r4 => ?_)
    rintro ⟨e4, hh4, fq4, wq4⟩
    rw [e4]
    have fr4 : fr_g TM h0 h4 := fr_trans fr1 (fr_wk rfl fq4)
    show Ends _ _ (19, lv, [], h4, 0, 0) _
    refine E_al rfl L0 ?_
    refine E_ci 0 rfl (by decide) ?_
    refine E_call rfl (Sp_le (by omega) (sp_ringFree (d := 0) hh4 (RI_fr hR rfl fr4).1 (by omega) wq4)) (chk77 hh4 rfl rfl (by show 0 ≤ 8; decide)) (fun h5 r5 => ?_)
    rintro ⟨hh5, fq5, x5, f5⟩
    rw [f5]
    have fr5 : fr_g TM h0 h5 := fr_trans fr4 (fr_wk rfl fq5)
    have pe5 : gn h5 84 0 = gn h4 84 0 := fr_gn fq5 (rg_no rfl _)
    show Ends _ _ (24, lv, [.int x5], h5, 0, 0) _
    exact E_rti rfl ⟨hh5, fr5, _, rfl⟩
  · refine E_ifF rfl (by rw [zb_F hb3]; rfl) ?_
    refine E_c rfl ?_
    exact E_rti rfl ⟨hh1, fr1, _, rfl⟩
end
