section
theorem fo_let {h0 : pm_H} {d : Nat} (j : Nat) : ∀ {h : pm_H} {n : Int32} (lv : List (Nat × Value)), HH h → fr_g FM h0 h → gn h 77 7 + j = gn h 77 6 → gn h 77 9 ≤ gn h 77 7 → gn h0 77 7 ≤ gn h 77 9 → (gn h 77 9 < gn h 77 7 ∨ PB h (gn h 77 7) (nJ 97) (nJ 122)) → pm_get lv 0 = some (.ref 77) → pm_get lv 1 = some (.int n) → Ends (pm_at tX9_follows) (pm_Rt pm_P (d + 1)) (102, lv, [], h, 0, 0) (fun h' r => r = none ∧ RR h' ∧ fr_g FM h0 h' ∧ gn h0 77 7 ≤ gn h' 77 9) := by
  induction j with
  | zero =>
    intro h n lv hh hfr hj hb1 hb2 hb3 L0 L1
    have h5 := b500 hh
    refine E_al rfl L0 ?_
    refine E_al rfl L0 ?_
    have b1 : gn h 77 7 ≤ 500 := gn_hi hh rfl (by decide)
    refine E_gf rfl hh rfl (gi_gn hh rfl (by decide)) ?_
    refine E_ci 97 rfl (by decide) ?_
    refine E_ci 122 rfl (by decide) ?_
    refine E_call rfl (Sp_le (by omega) (sp_isByte (d := 0) hh (by omega))) (chk77 hh rfl rfl (by show 0 ≤ 8; decide)) (fun h2 r2 => ?_)
    rintro ⟨e2, f2⟩
    rw [e2]
    rcases f2 with ⟨pb2, f2⟩ | ⟨pb2, f2⟩
    · rw [f2]
      have hx := hb3.resolve_right pb2
      show Ends _ _ (114, lv, [.int (nJ 0)], h, 0, 0) _
      refine E_ifT rfl (by decide) ?_
      refine E_goto rfl ?_
      exact E_ret rfl ⟨rfl, ⟨hh, by omega, by omega, by omega⟩, hfr, by omega⟩
    · rw [f2]
      have lt2 := pb2.1
      show Ends _ _ (114, lv, [.int (nJ 1)], h, 0, 0) _
      refine E_ifF rfl (by decide) ?_
      refine E_al rfl L0 ?_
      refine E_il rfl L1 ?_
      refine E_ci 11 rfl (by decide) ?_
      by_cases hb3 : n ≤ (nJ 11)
      · refine E_icT rfl (decide_eq_true hb3) ?_
        refine E_c rfl ?_
        refine E_al rfl L0 ?_
        refine E_gfl rfl hh rfl (fun x4 => ?_)
        refine E_lbin rfl ?_
        refine E_al rfl L0 ?_
        refine E_gr rfl hh (q := 82) rfl ?_
        refine E_al rfl L0 ?_
        have b5 : gn h 77 7 ≤ 500 := gn_hi hh rfl (by decide)
        refine E_gf rfl hh rfl (gi_gn hh rfl (by decide)) ?_
        refine E_bal rfl hh rfl (by omega) (by decide) ?_
        refine E_i2l rfl ?_
        refine E_lbin rfl ?_
        refine E_c rfl ?_
        refine E_lbin rfl ?_
        refine E_pfl rfl hh rfl (fun h6 hh6 fl6 => ?_)
        have fr6 : fr_g FM h0 h6 := fr_trans hfr (fr_wk rfl fl6)
        have t6_0 : gn h6 77 6 = gn h 77 6 := fr_gn fl6 rfl
        have t6_1 : gn h6 77 7 = gn h 77 7 := fr_gn fl6 rfl
        have t6_2 : gn h6 77 8 = gn h 77 8 := fr_gn fl6 rfl
        have t6_3 : gn h6 77 9 = gn h 77 9 := fr_gn fl6 rfl
        have t6_4 : gn h6 77 12 = gn h 77 12 := fr_gn fl6 rfl
        refine E_il rfl L1 ?_
        refine E_ci 11 rfl (by decide) ?_
        by_cases hb7 : n ≤ (nJ 11)
        · refine E_icT rfl (decide_eq_true hb7) ?_
          refine E_al rfl L0 ?_
          refine E_dup rfl rfl ?_
          have b8 : gn h6 77 7 ≤ 500 := gn_hi hh6 rfl (by decide)
          refine E_gf rfl hh6 rfl (gi_gn hh6 rfl (by decide)) ?_
          refine E_ci 1 rfl (by decide) ?_
          refine E_bin rfl (nJ_add _ _) ?_
          refine E_pf rfl hh6 rfl ?_
          have hh9 : HH (pt h6 77 7 (nJ (((gn h6 77 7) + 1)))) := HH_ptn hh6 rfl (by omega) (by omega) (by omega)
          have fr9 : fr_g FM h0 (pt h6 77 7 (nJ (((gn h6 77 7) + 1)))) := fr_ptr (l := 7) (u := 7) rfl (by omega) (by omega) fr6
          have t9_0 : gn (pt h6 77 7 (nJ (((gn h6 77 7) + 1)))) 77 6 = gn h6 77 6 := gn_ne (by omega)
          have t9_1 : gn (pt h6 77 7 (nJ (((gn h6 77 7) + 1)))) 77 7 = ((gn h6 77 7) + 1) := gn_ptn hh6 rfl (by omega) (by omega) (by omega)
          have t9_2 : gn (pt h6 77 7 (nJ (((gn h6 77 7) + 1)))) 77 8 = gn h6 77 8 := gn_ne (by omega)
          have t9_3 : gn (pt h6 77 7 (nJ (((gn h6 77 7) + 1)))) 77 9 = gn h6 77 9 := gn_ne (by omega)
          have t9_4 : gn (pt h6 77 7 (nJ (((gn h6 77 7) + 1)))) 77 12 = gn h6 77 12 := gn_ne (by omega)
          generalize hz9 : (pt h6 77 7 (nJ (((gn h6 77 7) + 1)))) = g9 at hh9 fr9 t9_0 t9_1 t9_2 t9_3 t9_4 ⊢
          refine E_inc rfl L1 rfl (fun lv10 L10_1 kp10 => ?_)
          have L10_0 := kp10 0 _ (by decide) rfl L0
          refine E_goto rfl ?_
          exfalso; omega
        · refine E_icF rfl (decide_eq_false hb7) ?_
          refine E_al rfl L0 ?_
          refine E_c rfl ?_
          refine E_pfl rfl hh6 rfl (fun h11 hh11 fl11 => ?_)
          have fr11 : fr_g FM h0 h11 := fr_trans fr6 (fr_wk rfl fl11)
          have t11_0 : gn h11 77 6 = gn h6 77 6 := fr_gn fl11 rfl
          have t11_1 : gn h11 77 7 = gn h6 77 7 := fr_gn fl11 rfl
          have t11_2 : gn h11 77 8 = gn h6 77 8 := fr_gn fl11 rfl
          have t11_3 : gn h11 77 9 = gn h6 77 9 := fr_gn fl11 rfl
          have t11_4 : gn h11 77 12 = gn h6 77 12 := fr_gn fl11 rfl
          refine E_al rfl L0 ?_
          refine E_dup rfl rfl ?_
          have b12 : gn h11 77 7 ≤ 500 := gn_hi hh11 rfl (by decide)
          refine E_gf rfl hh11 rfl (gi_gn hh11 rfl (by decide)) ?_
          refine E_ci 1 rfl (by decide) ?_
          refine E_bin rfl (nJ_add _ _) ?_
          refine E_pf rfl hh11 rfl ?_
          have hh13 : HH (pt h11 77 7 (nJ (((gn h11 77 7) + 1)))) := HH_ptn hh11 rfl (by omega) (by omega) (by omega)
          have fr13 : fr_g FM h0 (pt h11 77 7 (nJ (((gn h11 77 7) + 1)))) := fr_ptr (l := 7) (u := 7) rfl (by omega) (by omega) fr11
          have t13_0 : gn (pt h11 77 7 (nJ (((gn h11 77 7) + 1)))) 77 6 = gn h11 77 6 := gn_ne (by omega)
          have t13_1 : gn (pt h11 77 7 (nJ (((gn h11 77 7) + 1)))) 77 7 = ((gn h11 77 7) + 1) := gn_ptn hh11 rfl (by omega) (by omega) (by omega)
          have t13_2 : gn (pt h11 77 7 (nJ (((gn h11 77 7) + 1)))) 77 8 = gn h11 77 8 := gn_ne (by omega)
          have t13_3 : gn (pt h11 77 7 (nJ (((gn h11 77 7) + 1)))) 77 9 = gn h11 77 9 := gn_ne (by omega)
          have t13_4 : gn (pt h11 77 7 (nJ (((gn h11 77 7) + 1)))) 77 12 = gn h11 77 12 := gn_ne (by omega)
          generalize hz13 : (pt h11 77 7 (nJ (((gn h11 77 7) + 1)))) = g13 at hh13 fr13 t13_0 t13_1 t13_2 t13_3 t13_4 ⊢
          refine E_inc rfl L1 rfl (fun lv14 L14_1 kp14 => ?_)
          have L14_0 := kp14 0 _ (by decide) rfl L0
          refine E_goto rfl ?_
          exfalso; omega
      · refine E_icF rfl (decide_eq_false hb3) ?_
        refine E_c rfl ?_
        refine E_goto rfl ?_
        refine E_pfl rfl hh rfl (fun h15 hh15 fl15 => ?_)
        have fr15 : fr_g FM h0 h15 := fr_trans hfr (fr_wk rfl fl15)
        have t15_0 : gn h15 77 6 = gn h 77 6 := fr_gn fl15 rfl
        have t15_1 : gn h15 77 7 = gn h 77 7 := fr_gn fl15 rfl
        have t15_2 : gn h15 77 8 = gn h 77 8 := fr_gn fl15 rfl
        have t15_3 : gn h15 77 9 = gn h 77 9 := fr_gn fl15 rfl
        have t15_4 : gn h15 77 12 = gn h 77 12 := fr_gn fl15 rfl
        refine E_il rfl L1 ?_
        refine E_ci 11 rfl (by decide) ?_
        by_cases hb16 : n ≤ (nJ 11)
        · refine E_icT rfl (decide_eq_true hb16) ?_
          refine E_al rfl L0 ?_
          refine E_dup rfl rfl ?_
          have b17 : gn h15 77 7 ≤ 500 := gn_hi hh15 rfl (by decide)
          refine E_gf rfl hh15 rfl (gi_gn hh15 rfl (by decide)) ?_
          refine E_ci 1 rfl (by decide) ?_
          refine E_bin rfl (nJ_add _ _) ?_
          refine E_pf rfl hh15 rfl ?_
          have hh18 : HH (pt h15 77 7 (nJ (((gn h15 77 7) + 1)))) := HH_ptn hh15 rfl (by omega) (by omega) (by omega)
          have fr18 : fr_g FM h0 (pt h15 77 7 (nJ (((gn h15 77 7) + 1)))) := fr_ptr (l := 7) (u := 7) rfl (by omega) (by omega) fr15
          have t18_0 : gn (pt h15 77 7 (nJ (((gn h15 77 7) + 1)))) 77 6 = gn h15 77 6 := gn_ne (by omega)
          have t18_1 : gn (pt h15 77 7 (nJ (((gn h15 77 7) + 1)))) 77 7 = ((gn h15 77 7) + 1) := gn_ptn hh15 rfl (by omega) (by omega) (by omega)
          have t18_2 : gn (pt h15 77 7 (nJ (((gn h15 77 7) + 1)))) 77 8 = gn h15 77 8 := gn_ne (by omega)
          have t18_3 : gn (pt h15 77 7 (nJ (((gn h15 77 7) + 1)))) 77 9 = gn h15 77 9 := gn_ne (by omega)
          have t18_4 : gn (pt h15 77 7 (nJ (((gn h15 77 7) + 1)))) 77 12 = gn h15 77 12 := gn_ne (by omega)
          generalize hz18 : (pt h15 77 7 (nJ (((gn h15 77 7) + 1)))) = g18 at hh18 fr18 t18_0 t18_1 t18_2 t18_3 t18_4 ⊢
          refine E_inc rfl L1 rfl (fun lv19 L19_1 kp19 => ?_)
          have L19_0 := kp19 0 _ (by decide) rfl L0
          refine E_goto rfl ?_
          exfalso; omega
        · refine E_icF rfl (decide_eq_false hb16) ?_
          refine E_al rfl L0 ?_
          refine E_c rfl ?_
          refine E_pfl rfl hh15 rfl (fun h20 hh20 fl20 => ?_)
          have fr20 : fr_g FM h0 h20 := fr_trans fr15 (fr_wk rfl fl20)
          have t20_0 : gn h20 77 6 = gn h15 77 6 := fr_gn fl20 rfl
          have t20_1 : gn h20 77 7 = gn h15 77 7 := fr_gn fl20 rfl
          have t20_2 : gn h20 77 8 = gn h15 77 8 := fr_gn fl20 rfl
          have t20_3 : gn h20 77 9 = gn h15 77 9 := fr_gn fl20 rfl
          have t20_4 : gn h20 77 12 = gn h15 77 12 := fr_gn fl20 rfl
          refine E_al rfl L0 ?_
          refine E_dup rfl rfl ?_
          have b21 : gn h20 77 7 ≤ 500 := gn_hi hh20 rfl (by decide)
          refine E_gf rfl hh20 rfl (gi_gn hh20 rfl (by decide)) ?_
          refine E_ci 1 rfl (by decide) ?_
          refine E_bin rfl (nJ_add _ _) ?_
          refine E_pf rfl hh20 rfl ?_
          have hh22 : HH (pt h20 77 7 (nJ (((gn h20 77 7) + 1)))) := HH_ptn hh20 rfl (by omega) (by omega) (by omega)
          have fr22 : fr_g FM h0 (pt h20 77 7 (nJ (((gn h20 77 7) + 1)))) := fr_ptr (l := 7) (u := 7) rfl (by omega) (by omega) fr20
          have t22_0 : gn (pt h20 77 7 (nJ (((gn h20 77 7) + 1)))) 77 6 = gn h20 77 6 := gn_ne (by omega)
          have t22_1 : gn (pt h20 77 7 (nJ (((gn h20 77 7) + 1)))) 77 7 = ((gn h20 77 7) + 1) := gn_ptn hh20 rfl (by omega) (by omega) (by omega)
          have t22_2 : gn (pt h20 77 7 (nJ (((gn h20 77 7) + 1)))) 77 8 = gn h20 77 8 := gn_ne (by omega)
          have t22_3 : gn (pt h20 77 7 (nJ (((gn h20 77 7) + 1)))) 77 9 = gn h20 77 9 := gn_ne (by omega)
          have t22_4 : gn (pt h20 77 7 (nJ (((gn h20 77 7) + 1)))) 77 12 = gn h20 77 12 := gn_ne (by omega)
          generalize hz22 : (pt h20 77 7 (nJ (((gn h20 77 7) + 1)))) = g22 at hh22 fr22 t22_0 t22_1 t22_2 t22_3 t22_4 ⊢
          refine E_inc rfl L1 rfl (fun lv23 L23_1 kp23 => ?_)
          have L23_0 := kp23 0 _ (by decide) rfl L0
          refine E_goto rfl ?_
          exfalso; omega
  | succ j ih =>
    intro h n lv hh hfr hj hb1 hb2 hb3 L0 L1
    have h5 := b500 hh
    refine E_al rfl L0 ?_
    refine E_al rfl L0 ?_
    have b1 : gn h 77 7 ≤ 500 := gn_hi hh rfl (by decide)
    refine E_gf rfl hh rfl (gi_gn hh rfl (by decide)) ?_
    refine E_ci 97 rfl (by decide) ?_
    refine E_ci 122 rfl (by decide) ?_
    refine E_call rfl (Sp_le (by omega) (sp_isByte (d := 0) hh (by omega))) (chk77 hh rfl rfl (by show 0 ≤ 8; decide)) (fun h2 r2 => ?_)
    rintro ⟨e2, f2⟩
    rw [e2]
    rcases f2 with ⟨pb2, f2⟩ | ⟨pb2, f2⟩
    · rw [f2]
      have hx := hb3.resolve_right pb2
      show Ends _ _ (114, lv, [.int (nJ 0)], h, 0, 0) _
      refine E_ifT rfl (by decide) ?_
      refine E_goto rfl ?_
      exact E_ret rfl ⟨rfl, ⟨hh, by omega, by omega, by omega⟩, hfr, by omega⟩
    · rw [f2]
      have lt2 := pb2.1
      show Ends _ _ (114, lv, [.int (nJ 1)], h, 0, 0) _
      refine E_ifF rfl (by decide) ?_
      refine E_al rfl L0 ?_
      refine E_il rfl L1 ?_
      refine E_ci 11 rfl (by decide) ?_
      by_cases hb3 : n ≤ (nJ 11)
      · refine E_icT rfl (decide_eq_true hb3) ?_
        refine E_c rfl ?_
        refine E_al rfl L0 ?_
        refine E_gfl rfl hh rfl (fun x4 => ?_)
        refine E_lbin rfl ?_
        refine E_al rfl L0 ?_
        refine E_gr rfl hh (q := 82) rfl ?_
        refine E_al rfl L0 ?_
        have b5 : gn h 77 7 ≤ 500 := gn_hi hh rfl (by decide)
        refine E_gf rfl hh rfl (gi_gn hh rfl (by decide)) ?_
        refine E_bal rfl hh rfl (by omega) (by decide) ?_
        refine E_i2l rfl ?_
        refine E_lbin rfl ?_
        refine E_c rfl ?_
        refine E_lbin rfl ?_
        refine E_pfl rfl hh rfl (fun h6 hh6 fl6 => ?_)
        have fr6 : fr_g FM h0 h6 := fr_trans hfr (fr_wk rfl fl6)
        have t6_0 : gn h6 77 6 = gn h 77 6 := fr_gn fl6 rfl
        have t6_1 : gn h6 77 7 = gn h 77 7 := fr_gn fl6 rfl
        have t6_2 : gn h6 77 8 = gn h 77 8 := fr_gn fl6 rfl
        have t6_3 : gn h6 77 9 = gn h 77 9 := fr_gn fl6 rfl
        have t6_4 : gn h6 77 12 = gn h 77 12 := fr_gn fl6 rfl
        refine E_il rfl L1 ?_
        refine E_ci 11 rfl (by decide) ?_
        by_cases hb7 : n ≤ (nJ 11)
        · refine E_icT rfl (decide_eq_true hb7) ?_
          refine E_al rfl L0 ?_
          refine E_dup rfl rfl ?_
          have b8 : gn h6 77 7 ≤ 500 := gn_hi hh6 rfl (by decide)
          refine E_gf rfl hh6 rfl (gi_gn hh6 rfl (by decide)) ?_
          refine E_ci 1 rfl (by decide) ?_
          refine E_bin rfl (nJ_add _ _) ?_
          refine E_pf rfl hh6 rfl ?_
          have hh9 : HH (pt h6 77 7 (nJ (((gn h6 77 7) + 1)))) := HH_ptn hh6 rfl (by omega) (by omega) (by omega)
          have fr9 : fr_g FM h0 (pt h6 77 7 (nJ (((gn h6 77 7) + 1)))) := fr_ptr (l := 7) (u := 7) rfl (by omega) (by omega) fr6
          have t9_0 : gn (pt h6 77 7 (nJ (((gn h6 77 7) + 1)))) 77 6 = gn h6 77 6 := gn_ne (by omega)
          have t9_1 : gn (pt h6 77 7 (nJ (((gn h6 77 7) + 1)))) 77 7 = ((gn h6 77 7) + 1) := gn_ptn hh6 rfl (by omega) (by omega) (by omega)
          have t9_2 : gn (pt h6 77 7 (nJ (((gn h6 77 7) + 1)))) 77 8 = gn h6 77 8 := gn_ne (by omega)
          have t9_3 : gn (pt h6 77 7 (nJ (((gn h6 77 7) + 1)))) 77 9 = gn h6 77 9 := gn_ne (by omega)
          have t9_4 : gn (pt h6 77 7 (nJ (((gn h6 77 7) + 1)))) 77 12 = gn h6 77 12 := gn_ne (by omega)
          generalize hz9 : (pt h6 77 7 (nJ (((gn h6 77 7) + 1)))) = g9 at hh9 fr9 t9_0 t9_1 t9_2 t9_3 t9_4 ⊢
          refine E_inc rfl L1 rfl (fun lv10 L10_1 kp10 => ?_)
          have L10_0 := kp10 0 _ (by decide) rfl L0
          refine E_goto rfl ?_
          exact ih lv10 hh9 fr9 (by omega) (by omega) (by omega) (.inl (by omega)) L10_0 L10_1
        · refine E_icF rfl (decide_eq_false hb7) ?_
          refine E_al rfl L0 ?_
          refine E_c rfl ?_
          refine E_pfl rfl hh6 rfl (fun h11 hh11 fl11 => ?_)
          have fr11 : fr_g FM h0 h11 := fr_trans fr6 (fr_wk rfl fl11)
          have t11_0 : gn h11 77 6 = gn h6 77 6 := fr_gn fl11 rfl
          have t11_1 : gn h11 77 7 = gn h6 77 7 := fr_gn fl11 rfl
          have t11_2 : gn h11 77 8 = gn h6 77 8 := fr_gn fl11 rfl
          have t11_3 : gn h11 77 9 = gn h6 77 9 := fr_gn fl11 rfl
          have t11_4 : gn h11 77 12 = gn h6 77 12 := fr_gn fl11 rfl
          refine E_al rfl L0 ?_
          refine E_dup rfl rfl ?_
          have b12 : gn h11 77 7 ≤ 500 := gn_hi hh11 rfl (by decide)
          refine E_gf rfl hh11 rfl (gi_gn hh11 rfl (by decide)) ?_
          refine E_ci 1 rfl (by decide) ?_
          refine E_bin rfl (nJ_add _ _) ?_
          refine E_pf rfl hh11 rfl ?_
          have hh13 : HH (pt h11 77 7 (nJ (((gn h11 77 7) + 1)))) := HH_ptn hh11 rfl (by omega) (by omega) (by omega)
          have fr13 : fr_g FM h0 (pt h11 77 7 (nJ (((gn h11 77 7) + 1)))) := fr_ptr (l := 7) (u := 7) rfl (by omega) (by omega) fr11
          have t13_0 : gn (pt h11 77 7 (nJ (((gn h11 77 7) + 1)))) 77 6 = gn h11 77 6 := gn_ne (by omega)
          have t13_1 : gn (pt h11 77 7 (nJ (((gn h11 77 7) + 1)))) 77 7 = ((gn h11 77 7) + 1) := gn_ptn hh11 rfl (by omega) (by omega) (by omega)
          have t13_2 : gn (pt h11 77 7 (nJ (((gn h11 77 7) + 1)))) 77 8 = gn h11 77 8 := gn_ne (by omega)
          have t13_3 : gn (pt h11 77 7 (nJ (((gn h11 77 7) + 1)))) 77 9 = gn h11 77 9 := gn_ne (by omega)
          have t13_4 : gn (pt h11 77 7 (nJ (((gn h11 77 7) + 1)))) 77 12 = gn h11 77 12 := gn_ne (by omega)
          generalize hz13 : (pt h11 77 7 (nJ (((gn h11 77 7) + 1)))) = g13 at hh13 fr13 t13_0 t13_1 t13_2 t13_3 t13_4 ⊢
          refine E_inc rfl L1 rfl (fun lv14 L14_1 kp14 => ?_)
          have L14_0 := kp14 0 _ (by decide) rfl L0
          refine E_goto rfl ?_
          exact ih lv14 hh13 fr13 (by omega) (by omega) (by omega) (.inl (by omega)) L14_0 L14_1
      · refine E_icF rfl (decide_eq_false hb3) ?_
        refine E_c rfl ?_
        refine E_goto rfl ?_
        refine E_pfl rfl hh rfl (fun h15 hh15 fl15 => ?_)
        have fr15 : fr_g FM h0 h15 := fr_trans hfr (fr_wk rfl fl15)
        have t15_0 : gn h15 77 6 = gn h 77 6 := fr_gn fl15 rfl
        have t15_1 : gn h15 77 7 = gn h 77 7 := fr_gn fl15 rfl
        have t15_2 : gn h15 77 8 = gn h 77 8 := fr_gn fl15 rfl
        have t15_3 : gn h15 77 9 = gn h 77 9 := fr_gn fl15 rfl
        have t15_4 : gn h15 77 12 = gn h 77 12 := fr_gn fl15 rfl
        refine E_il rfl L1 ?_
        refine E_ci 11 rfl (by decide) ?_
        by_cases hb16 : n ≤ (nJ 11)
        · refine E_icT rfl (decide_eq_true hb16) ?_
          refine E_al rfl L0 ?_
          refine E_dup rfl rfl ?_
          have b17 : gn h15 77 7 ≤ 500 := gn_hi hh15 rfl (by decide)
          refine E_gf rfl hh15 rfl (gi_gn hh15 rfl (by decide)) ?_
          refine E_ci 1 rfl (by decide) ?_
          refine E_bin rfl (nJ_add _ _) ?_
          refine E_pf rfl hh15 rfl ?_
          have hh18 : HH (pt h15 77 7 (nJ (((gn h15 77 7) + 1)))) := HH_ptn hh15 rfl (by omega) (by omega) (by omega)
          have fr18 : fr_g FM h0 (pt h15 77 7 (nJ (((gn h15 77 7) + 1)))) := fr_ptr (l := 7) (u := 7) rfl (by omega) (by omega) fr15
          have t18_0 : gn (pt h15 77 7 (nJ (((gn h15 77 7) + 1)))) 77 6 = gn h15 77 6 := gn_ne (by omega)
          have t18_1 : gn (pt h15 77 7 (nJ (((gn h15 77 7) + 1)))) 77 7 = ((gn h15 77 7) + 1) := gn_ptn hh15 rfl (by omega) (by omega) (by omega)
          have t18_2 : gn (pt h15 77 7 (nJ (((gn h15 77 7) + 1)))) 77 8 = gn h15 77 8 := gn_ne (by omega)
          have t18_3 : gn (pt h15 77 7 (nJ (((gn h15 77 7) + 1)))) 77 9 = gn h15 77 9 := gn_ne (by omega)
          have t18_4 : gn (pt h15 77 7 (nJ (((gn h15 77 7) + 1)))) 77 12 = gn h15 77 12 := gn_ne (by omega)
          generalize hz18 : (pt h15 77 7 (nJ (((gn h15 77 7) + 1)))) = g18 at hh18 fr18 t18_0 t18_1 t18_2 t18_3 t18_4 ⊢
          refine E_inc rfl L1 rfl (fun lv19 L19_1 kp19 => ?_)
          have L19_0 := kp19 0 _ (by decide) rfl L0
          refine E_goto rfl ?_
          exact ih lv19 hh18 fr18 (by omega) (by omega) (by omega) (.inl (by omega)) L19_0 L19_1
        · refine E_icF rfl (decide_eq_false hb16) ?_
          refine E_al rfl L0 ?_
          refine E_c rfl ?_
          refine E_pfl rfl hh15 rfl (fun h20 hh20 fl20 => ?_)
          have fr20 : fr_g FM h0 h20 := fr_trans fr15 (fr_wk rfl fl20)
          have t20_0 : gn h20 77 6 = gn h15 77 6 := fr_gn fl20 rfl
          have t20_1 : gn h20 77 7 = gn h15 77 7 := fr_gn fl20 rfl
          have t20_2 : gn h20 77 8 = gn h15 77 8 := fr_gn fl20 rfl
          have t20_3 : gn h20 77 9 = gn h15 77 9 := fr_gn fl20 rfl
          have t20_4 : gn h20 77 12 = gn h15 77 12 := fr_gn fl20 rfl
          refine E_al rfl L0 ?_
          refine E_dup rfl rfl ?_
          have b21 : gn h20 77 7 ≤ 500 := gn_hi hh20 rfl (by decide)
          refine E_gf rfl hh20 rfl (gi_gn hh20 rfl (by decide)) ?_
          refine E_ci 1 rfl (by decide) ?_
          refine E_bin rfl (nJ_add _ _) ?_
          refine E_pf rfl hh20 rfl ?_
          have hh22 : HH (pt h20 77 7 (nJ (((gn h20 77 7) + 1)))) := HH_ptn hh20 rfl (by omega) (by omega) (by omega)
          have fr22 : fr_g FM h0 (pt h20 77 7 (nJ (((gn h20 77 7) + 1)))) := fr_ptr (l := 7) (u := 7) rfl (by omega) (by omega) fr20
          have t22_0 : gn (pt h20 77 7 (nJ (((gn h20 77 7) + 1)))) 77 6 = gn h20 77 6 := gn_ne (by omega)
          have t22_1 : gn (pt h20 77 7 (nJ (((gn h20 77 7) + 1)))) 77 7 = ((gn h20 77 7) + 1) := gn_ptn hh20 rfl (by omega) (by omega) (by omega)
          have t22_2 : gn (pt h20 77 7 (nJ (((gn h20 77 7) + 1)))) 77 8 = gn h20 77 8 := gn_ne (by omega)
          have t22_3 : gn (pt h20 77 7 (nJ (((gn h20 77 7) + 1)))) 77 9 = gn h20 77 9 := gn_ne (by omega)
          have t22_4 : gn (pt h20 77 7 (nJ (((gn h20 77 7) + 1)))) 77 12 = gn h20 77 12 := gn_ne (by omega)
          generalize hz22 : (pt h20 77 7 (nJ (((gn h20 77 7) + 1)))) = g22 at hh22 fr22 t22_0 t22_1 t22_2 t22_3 t22_4 ⊢
          refine E_inc rfl L1 rfl (fun lv23 L23_1 kp23 => ?_)
          have L23_0 := kp23 0 _ (by decide) rfl L0
          refine E_goto rfl ?_
          exact ih lv23 hh22 fr22 (by omega) (by omega) (by omega) (.inl (by omega)) L23_0 L23_1
end
