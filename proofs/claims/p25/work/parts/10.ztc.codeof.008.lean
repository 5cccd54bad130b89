section
theorem fo_tail {h0 h : pm_H} {d : Nat} (lv : List (Nat × Value)) (hh : HH h) (hfr : fr_g FM h0 h) (hb1 : gn h 77 7 ≤ gn h 77 6) (hb2 : gn h0 77 7 ≤ gn h 77 7) (L0 : pm_get lv 0 = some (.ref 77)) : Ends (pm_at tX9_follows) (pm_Rt pm_P (d + 1)) (43, lv, [], h, 0, 0) (fun h' r => r = none ∧ RR h' ∧ fr_g FM h0 h' ∧ gn h0 77 7 ≤ gn h' 77 9) := by
  have h5 := b500 hh
  refine E_al rfl L0 ?_
  refine E_al rfl L0 ?_
  have b1 : gn h 77 7 ≤ 500 := gn_hi hh rfl (by decide)
  refine E_gf rfl hh rfl (gi_gn hh rfl (by decide)) ?_
  refine E_pf rfl hh rfl ?_
  have hh2 : HH (pt h 77 9 (nJ ((gn h 77 7)))) := HH_ptn hh rfl (by omega) (by omega) (by omega)
  have fr2 : fr_g FM h0 (pt h 77 9 (nJ ((gn h 77 7)))) := fr_ptr (l := 9) (u := 9) rfl (by omega) (by omega) hfr
  have t2_0 : gn (pt h 77 9 (nJ ((gn h 77 7)))) 77 6 = gn h 77 6 := gn_ne (by omega)
  have t2_1 : gn (pt h 77 9 (nJ ((gn h 77 7)))) 77 7 = gn h 77 7 := gn_ne (by omega)
  have t2_2 : gn (pt h 77 9 (nJ ((gn h 77 7)))) 77 8 = gn h 77 8 := gn_ne (by omega)
  have t2_3 : gn (pt h 77 9 (nJ ((gn h 77 7)))) 77 9 = (gn h 77 7) := gn_ptn hh rfl (by omega) (by omega) (by omega)
  have t2_4 : gn (pt h 77 9 (nJ ((gn h 77 7)))) 77 12 = gn h 77 12 := gn_ne (by omega)
  generalize hz2 : (pt h 77 9 (nJ ((gn h 77 7)))) = g2 at hh2 fr2 t2_0 t2_1 t2_2 t2_3 t2_4 ⊢
  refine E_al rfl L0 ?_
  refine E_ci 0 rfl (by decide) ?_
  refine E_pf rfl hh2 rfl ?_
  have hh3 : HH (pt g2 77 10 (nJ 0)) := HH_ptn hh2 rfl (by omega) (by omega) (by omega)
  have fr3 : fr_g FM h0 (pt g2 77 10 (nJ 0)) := fr_ptr (l := 10) (u := 10) rfl (by omega) (by omega) fr2
  have t3_0 : gn (pt g2 77 10 (nJ 0)) 77 6 = gn g2 77 6 := gn_ne (by omega)
  have t3_1 : gn (pt g2 77 10 (nJ 0)) 77 7 = gn g2 77 7 := gn_ne (by omega)
  have t3_2 : gn (pt g2 77 10 (nJ 0)) 77 8 = gn g2 77 8 := gn_ne (by omega)
  have t3_3 : gn (pt g2 77 10 (nJ 0)) 77 9 = gn g2 77 9 := gn_ne (by omega)
  have t3_4 : gn (pt g2 77 10 (nJ 0)) 77 12 = gn g2 77 12 := gn_ne (by omega)
  generalize hz3 : (pt g2 77 10 (nJ 0)) = g3 at hh3 fr3 t3_0 t3_1 t3_2 t3_3 t3_4 ⊢
  refine E_al rfl L0 ?_
  refine E_c rfl ?_
  refine E_pfl rfl hh3 rfl (fun h4 hh4 fl4 => ?_)
  have fr4 : fr_g FM h0 h4 := fr_trans fr3 (fr_wk rfl fl4)
  have t4_0 : gn h4 77 6 = gn g3 77 6 := fr_gn fl4 rfl
  have t4_1 : gn h4 77 7 = gn g3 77 7 := fr_gn fl4 rfl
  have t4_2 : gn h4 77 8 = gn g3 77 8 := fr_gn fl4 rfl
  have t4_3 : gn h4 77 9 = gn g3 77 9 := fr_gn fl4 rfl
  have t4_4 : gn h4 77 12 = gn g3 77 12 := fr_gn fl4 rfl
  refine E_al rfl L0 ?_
  have b5 : gn h4 77 7 ≤ 500 := gn_hi hh4 rfl (by decide)
  refine E_gf rfl hh4 rfl (gi_gn hh4 rfl (by decide)) ?_
  refine E_al rfl L0 ?_
  have b6 : gn h4 77 6 ≤ 500 := gn_hi hh4 rfl (by decide)
  refine E_gf rfl hh4 rfl (gi_gn hh4 rfl (by decide)) ?_
  by_cases hb7 : ¬ (gn h4 77 7) = (gn h4 77 6)
  · refine E_icT rfl (decide_eq_true (fun q => hb7 ((nJ_eq (by omega) (by omega)).mp q))) ?_
    refine E_al rfl L0 ?_
    refine E_al rfl L0 ?_
    have b8 : gn h4 77 7 ≤ 500 := gn_hi hh4 rfl (by decide)
    refine E_gf rfl hh4 rfl (gi_gn hh4 rfl (by decide)) ?_
    refine E_ci 97 rfl (by decide) ?_
    refine E_ci 122 rfl (by decide) ?_
    refine E_call rfl (Sp_le (by omega) (sp_isByte (d := 0) hh4 (by omega))) (chk77 hh4 rfl rfl (by show 0 ≤ 8; decide)) (fun h9 r9 => ?_)
    rintro ⟨e9, f9⟩
    rw [e9]
    rcases f9 with ⟨pb9, f9⟩ | ⟨pb9, f9⟩
    · rw [f9]
      show Ends _ _ (92, lv, [.int (nJ 0)], h4, 0, 0) _
      refine E_ifT rfl (by decide) ?_
      refine E_al rfl L0 ?_
      refine E_al rfl L0 ?_
      have b10 : gn h4 77 7 ≤ 500 := gn_hi hh4 rfl (by decide)
      refine E_gf rfl hh4 rfl (gi_gn hh4 rfl (by decide)) ?_
      refine E_ci 48 rfl (by decide) ?_
      refine E_ci 57 rfl (by decide) ?_
      refine E_call rfl (Sp_le (by omega) (sp_isByte (d := 0) hh4 (by omega))) (chk77 hh4 rfl rfl (by show 0 ≤ 8; decide)) (fun h11 r11 => ?_)
      rintro ⟨e11, f11⟩
      rw [e11]
      rcases f11 with ⟨pb11, f11⟩ | ⟨pb11, f11⟩
      · rw [f11]
        show Ends _ _ (200, lv, [.int (nJ 0)], h4, 0, 0) _
        refine E_ifT rfl (by decide) ?_
        refine E_al rfl L0 ?_
        refine E_al rfl L0 ?_
        refine E_gr rfl hh4 (q := 82) rfl ?_
        refine E_al rfl L0 ?_
        have b12 : gn h4 77 7 ≤ 500 := gn_hi hh4 rfl (by decide)
        refine E_gf rfl hh4 rfl (gi_gn hh4 rfl (by decide)) ?_
        refine E_bal rfl hh4 rfl (by omega) (by decide) ?_
        refine E_ci 59 rfl (by decide) ?_
        by_cases hb13 : ¬ (gi h4 82 ((gn h4 77 7))) = (nJ 59)
        · refine E_icT rfl (decide_eq_true hb13) ?_
          refine E_ci 4 rfl (by decide) ?_
          refine E_pf rfl hh4 rfl ?_
          have hh14 : HH (pt h4 77 8 (nJ 4)) := HH_ptn hh4 rfl (by omega) (by omega) (by omega)
          have fr14 : fr_g FM h0 (pt h4 77 8 (nJ 4)) := fr_ptr (l := 8) (u := 8) rfl (by omega) (by omega) fr4
          have t14_0 : gn (pt h4 77 8 (nJ 4)) 77 6 = gn h4 77 6 := gn_ne (by omega)
          have t14_1 : gn (pt h4 77 8 (nJ 4)) 77 7 = gn h4 77 7 := gn_ne (by omega)
          have t14_2 : gn (pt h4 77 8 (nJ 4)) 77 8 = 4 := gn_ptn hh4 rfl (by omega) (by omega) (by omega)
          have t14_3 : gn (pt h4 77 8 (nJ 4)) 77 9 = gn h4 77 9 := gn_ne (by omega)
          have t14_4 : gn (pt h4 77 8 (nJ 4)) 77 12 = gn h4 77 12 := gn_ne (by omega)
          generalize hz14 : (pt h4 77 8 (nJ 4)) = g14 at hh14 fr14 t14_0 t14_1 t14_2 t14_3 t14_4 ⊢
          refine E_al rfl L0 ?_
          refine E_dup rfl rfl ?_
          have b15 : gn g14 77 7 ≤ 500 := gn_hi hh14 rfl (by decide)
          refine E_gf rfl hh14 rfl (gi_gn hh14 rfl (by decide)) ?_
          refine E_ci 1 rfl (by decide) ?_
          refine E_bin rfl (nJ_add _ _) ?_
          refine E_pf rfl hh14 rfl ?_
          have hh16 : HH (pt g14 77 7 (nJ (((gn g14 77 7) + 1)))) := HH_ptn hh14 rfl (by omega) (by omega) (by omega)
          have fr16 : fr_g FM h0 (pt g14 77 7 (nJ (((gn g14 77 7) + 1)))) := fr_ptr (l := 7) (u := 7) rfl (by omega) (by omega) fr14
          have t16_0 : gn (pt g14 77 7 (nJ (((gn g14 77 7) + 1)))) 77 6 = gn g14 77 6 := gn_ne (by omega)
          have t16_1 : gn (pt g14 77 7 (nJ (((gn g14 77 7) + 1)))) 77 7 = ((gn g14 77 7) + 1) := gn_ptn hh14 rfl (by omega) (by omega) (by omega)
          have t16_2 : gn (pt g14 77 7 (nJ (((gn g14 77 7) + 1)))) 77 8 = gn g14 77 8 := gn_ne (by omega)
          have t16_3 : gn (pt g14 77 7 (nJ (((gn g14 77 7) + 1)))) 77 9 = gn g14 77 9 := gn_ne (by omega)
          have t16_4 : gn (pt g14 77 7 (nJ (((gn g14 77 7) + 1)))) 77 12 = gn g14 77 12 := gn_ne (by omega)
          generalize hz16 : (pt g14 77 7 (nJ (((gn g14 77 7) + 1)))) = g16 at hh16 fr16 t16_0 t16_1 t16_2 t16_3 t16_4 ⊢
          exact E_ret rfl ⟨rfl, ⟨hh16, by omega, by omega, by omega⟩, fr16, by omega⟩
        · refine E_icF rfl (decide_eq_false hb13) ?_
          refine E_ci 3 rfl (by decide) ?_
          refine E_goto rfl ?_
          refine E_pf rfl hh4 rfl ?_
          have hh17 : HH (pt h4 77 8 (nJ 3)) := HH_ptn hh4 rfl (by omega) (by omega) (by omega)
          have fr17 : fr_g FM h0 (pt h4 77 8 (nJ 3)) := fr_ptr (l := 8) (u := 8) rfl (by omega) (by omega) fr4
          have t17_0 : gn (pt h4 77 8 (nJ 3)) 77 6 = gn h4 77 6 := gn_ne (by omega)
          have t17_1 : gn (pt h4 77 8 (nJ 3)) 77 7 = gn h4 77 7 := gn_ne (by omega)
          have t17_2 : gn (pt h4 77 8 (nJ 3)) 77 8 = 3 := gn_ptn hh4 rfl (by omega) (by omega) (by omega)
          have t17_3 : gn (pt h4 77 8 (nJ 3)) 77 9 = gn h4 77 9 := gn_ne (by omega)
          have t17_4 : gn (pt h4 77 8 (nJ 3)) 77 12 = gn h4 77 12 := gn_ne (by omega)
          generalize hz17 : (pt h4 77 8 (nJ 3)) = g17 at hh17 fr17 t17_0 t17_1 t17_2 t17_3 t17_4 ⊢
          refine E_al rfl L0 ?_
          refine E_dup rfl rfl ?_
          have b18 : gn g17 77 7 ≤ 500 := gn_hi hh17 rfl (by decide)
          refine E_gf rfl hh17 rfl (gi_gn hh17 rfl (by decide)) ?_
          refine E_ci 1 rfl (by decide) ?_
          refine E_bin rfl (nJ_add _ _) ?_
          refine E_pf rfl hh17 rfl ?_
          have hh19 : HH (pt g17 77 7 (nJ (((gn g17 77 7) + 1)))) := HH_ptn hh17 rfl (by omega) (by omega) (by omega)
          have fr19 : fr_g FM h0 (pt g17 77 7 (nJ (((gn g17 77 7) + 1)))) := fr_ptr (l := 7) (u := 7) rfl (by omega) (by omega) fr17
          have t19_0 : gn (pt g17 77 7 (nJ (((gn g17 77 7) + 1)))) 77 6 = gn g17 77 6 := gn_ne (by omega)
          have t19_1 : gn (pt g17 77 7 (nJ (((gn g17 77 7) + 1)))) 77 7 = ((gn g17 77 7) + 1) := gn_ptn hh17 rfl (by omega) (by omega) (by omega)
          have t19_2 : gn (pt g17 77 7 (nJ (((gn g17 77 7) + 1)))) 77 8 = gn g17 77 8 := gn_ne (by omega)
          have t19_3 : gn (pt g17 77 7 (nJ (((gn g17 77 7) + 1)))) 77 9 = gn g17 77 9 := gn_ne (by omega)
          have t19_4 : gn (pt g17 77 7 (nJ (((gn g17 77 7) + 1)))) 77 12 = gn g17 77 12 := gn_ne (by omega)
          generalize hz19 : (pt g17 77 7 (nJ (((gn g17 77 7) + 1)))) = g19 at hh19 fr19 t19_0 t19_1 t19_2 t19_3 t19_4 ⊢
          exact E_ret rfl ⟨rfl, ⟨hh19, by omega, by omega, by omega⟩, fr19, by omega⟩
      · rw [f11]
        have lt11 := pb11.1
        show Ends _ _ (200, lv, [.int (nJ 1)], h4, 0, 0) _
        refine E_ifF rfl (by decide) ?_
        refine E_al rfl L0 ?_
        refine E_ci 2 rfl (by decide) ?_
        refine E_pf rfl hh4 rfl ?_
        have hh20 : HH (pt h4 77 8 (nJ 2)) := HH_ptn hh4 rfl (by omega) (by omega) (by omega)
        have fr20 : fr_g FM h0 (pt h4 77 8 (nJ 2)) := fr_ptr (l := 8) (u := 8) rfl (by omega) (by omega) fr4
        have t20_0 : gn (pt h4 77 8 (nJ 2)) 77 6 = gn h4 77 6 := gn_ne (by omega)
        have t20_1 : gn (pt h4 77 8 (nJ 2)) 77 7 = gn h4 77 7 := gn_ne (by omega)
        have t20_2 : gn (pt h4 77 8 (nJ 2)) 77 8 = 2 := gn_ptn hh4 rfl (by omega) (by omega) (by omega)
        have t20_3 : gn (pt h4 77 8 (nJ 2)) 77 9 = gn h4 77 9 := gn_ne (by omega)
        have t20_4 : gn (pt h4 77 8 (nJ 2)) 77 12 = gn h4 77 12 := gn_ne (by omega)
        generalize hz20 : (pt h4 77 8 (nJ 2)) = g20 at hh20 fr20 t20_0 t20_1 t20_2 t20_3 t20_4 ⊢
        exact fo_num (gn g20 77 6 - gn g20 77 7) lv hh20 fr20 (by omega) (by omega) (by omega) (.inr (PB_eq (by omega) (by omega) (by rw [← hz20]; exact gi_ne (by omega)) pb11)) L0
    · rw [f9]
      have lt9 := pb9.1
      show Ends _ _ (92, lv, [.int (nJ 1)], h4, 0, 0) _
      refine E_ifF rfl (by decide) ?_
      refine E_al rfl L0 ?_
      refine E_ci 1 rfl (by decide) ?_
      refine E_pf rfl hh4 rfl ?_
      have hh21 : HH (pt h4 77 8 (nJ 1)) := HH_ptn hh4 rfl (by omega) (by omega) (by omega)
      have fr21 : fr_g FM h0 (pt h4 77 8 (nJ 1)) := fr_ptr (l := 8) (u := 8) rfl (by omega) (by omega) fr4
      have t21_0 : gn (pt h4 77 8 (nJ 1)) 77 6 = gn h4 77 6 := gn_ne (by omega)
      have t21_1 : gn (pt h4 77 8 (nJ 1)) 77 7 = gn h4 77 7 := gn_ne (by omega)
      have t21_2 : gn (pt h4 77 8 (nJ 1)) 77 8 = 1 := gn_ptn hh4 rfl (by omega) (by omega) (by omega)
      have t21_3 : gn (pt h4 77 8 (nJ 1)) 77 9 = gn h4 77 9 := gn_ne (by omega)
      have t21_4 : gn (pt h4 77 8 (nJ 1)) 77 12 = gn h4 77 12 := gn_ne (by omega)
      generalize hz21 : (pt h4 77 8 (nJ 1)) = g21 at hh21 fr21 t21_0 t21_1 t21_2 t21_3 t21_4 ⊢
      refine E_ci 0 rfl (by decide) ?_
      refine E_is rfl (fun lv22 L22_1 kp22 => ?_)
      have L22_0 := kp22 0 _ (by decide) rfl L0
      exact fo_let (gn g21 77 6 - gn g21 77 7) lv22 hh21 fr21 (by omega) (by omega) (by omega) (.inr (PB_eq (by omega) (by omega) (by rw [← hz21]; exact gi_ne (by omega)) pb9)) L22_0 L22_1
  · refine E_icF rfl (decide_eq_false (fun q => hb7 (fun z => q ((nJ_eq (by omega) (by omega)).mpr z)))) ?_
    refine E_al rfl L0 ?_
    refine E_ci 0 rfl (by decide) ?_
    refine E_pf rfl hh4 rfl ?_
    have hh23 : HH (pt h4 77 8 (nJ 0)) := HH_ptn hh4 rfl (by omega) (by omega) (by omega)
    have fr23 : fr_g FM h0 (pt h4 77 8 (nJ 0)) := fr_ptr (l := 8) (u := 8) rfl (by omega) (by omega) fr4
    have t23_0 : gn (pt h4 77 8 (nJ 0)) 77 6 = gn h4 77 6 := gn_ne (by omega)
    have t23_1 : gn (pt h4 77 8 (nJ 0)) 77 7 = gn h4 77 7 := gn_ne (by omega)
    have t23_2 : gn (pt h4 77 8 (nJ 0)) 77 8 = 0 := gn_ptn hh4 rfl (by omega) (by omega) (by omega)
    have t23_3 : gn (pt h4 77 8 (nJ 0)) 77 9 = gn h4 77 9 := gn_ne (by omega)
    have t23_4 : gn (pt h4 77 8 (nJ 0)) 77 12 = gn h4 77 12 := gn_ne (by omega)
    generalize hz23 : (pt h4 77 8 (nJ 0)) = g23 at hh23 fr23 t23_0 t23_1 t23_2 t23_3 t23_4 ⊢
    refine E_goto rfl ?_
    exact E_ret rfl ⟨rfl, ⟨hh23, by omega, by omega, by omega⟩, fr23, by omega⟩
end
