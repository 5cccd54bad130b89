section
theorem sp_joinLine {h0 : pm_H} {d : Nat} (hh0 : HH h0) (hr1 : gn h0 77 9 ≤ gn h0 77 7) (hr2 : gn h0 77 7 ≤ gn h0 77 6) (hr3 : gn h0 77 8 = 0 ∨ gn h0 77 9 < gn h0 77 7) (hJ : JN h0) : Sp (d + 8) 282 h0 [.ref 77] (fun h' r => r = none ∧ RR h' ∧ fr_g JX h0 h' ∧ gn h0 77 9 ≤ gn h' 77 9 ∧ JN h') := by
  refine Sp_of aiX9_joinLine rfl rfl rfl ?_
  have L0 : pm_get (lv_args 0 [.ref 77]) 0 = some (.ref 77) := rfl
  generalize lv_args 0 [.ref 77] = lv at L0 ⊢
  have h5 := b500 hh0
  refine E_ci 2 rfl ci2 ?_
  refine E_ci 32 rfl ci32 ?_
  refine E_al rfl L0 ?_
  refine E_ci 4 rfl ci4 ?_
  refine E_call rfl (Sp_le (by first | exact Nat.add_le_add_left (Nat.le_of_ble_eq_true rfl) _ | exact Nat.le_of_ble_eq_true rfl | omega) (sp_hasRead (d := 0) hh0 (by omega) rfl (by decide))) (chk77 hh0 rfl rfl (by show 2 ≤ 8; decide)) (fun h1 r1 => ?_)
  rintro ⟨e1, f1⟩
  rw [e1, f1]
  have b1 : gn h0 84 28 ≤ 8 := gn_hi hh0 rfl (by decide)
  show Ends _ _ (8, lv, [.int (nJ (gn h0 84 28)), .int (nJ 32), .int (nJ 2)], h0, 0, 0) _
  refine E_ci 7 rfl ci7 ?_
  refine E_call rfl (Sp_le (by first | exact Nat.add_le_add_left (Nat.le_of_ble_eq_true rfl) _ | exact Nat.le_of_ble_eq_true rfl | omega) (sp_lessOf (d := 0) (by omega) (by omega))) (chkS rfl (by show 2 ≤ 8; decide)) (fun h2 r2 => ?_)
  rintro ⟨e2, f2⟩
  rw [e2, f2]
  show Ends _ _ (13, lv, [.int (nJ (min ((gn h0 84 28)) 7)), .int (nJ 32), .int (nJ 2)], h0, 0, 0) _
  refine E_bin rfl (nJ_add _ _) ?_
  refine E_bin rfl (nJ_mul _ _) ?_
  refine E_is rfl (fun lv3 L3_1 kp3 => ?_)
  have L3_0 := kp3 0 _ (nbz rfl) rfl L0
  refine E_al rfl L3_0 ?_
  refine E_ci 1 rfl ci1 ?_
  refine E_al rfl L3_0 ?_
  refine E_ci 0 rfl ci0 ?_
  refine E_call rfl (Sp_le (by first | exact Nat.add_le_add_left (Nat.le_of_ble_eq_true rfl) _ | exact Nat.le_of_ble_eq_true rfl | omega) (sp_hasRead (d := 0) hh0 (by omega) rfl (by decide))) (chk77 hh0 rfl rfl (by show 2 ≤ 8; decide)) (fun h4 r4 => ?_)
  rintro ⟨e4, f4⟩
  rw [e4, f4]
  have b4 : gn h0 84 24 ≤ 8 := gn_hi hh0 rfl (by decide)
  show Ends _ _ (23, lv3, [.int (nJ (gn h0 84 24)), .int (nJ 1), .ref 77], h0, 0, 0) _
  refine E_ci 1 rfl ci1 ?_
  refine E_bin rfl (nJ_add _ _) ?_
  refine E_call rfl (Sp_le (by first | exact Nat.add_le_add_left (Nat.le_of_ble_eq_true rfl) _ | exact Nat.le_of_ble_eq_true rfl | omega) (sp_number (d := 0) hh0 (by omega) (by omega) (by omega) (by omega) (by omega))) (chk77 hh0 rfl rfl (by show 0 ≤ 8; decide)) (fun h5 r5 => ?_)
  rintro ⟨⟨hh5, ra5, rb5, rc5⟩, fq5, mo5, v5, va5, vb5, f5, vc5⟩
  rw [f5]
  have fr5 : fr_g JX h0 h5 := fr_trans (fr_rf JX h0) (fr_wk rfl fq5)
  have t5_0 : gn h5 77 6 = gn h0 77 6 := fr_gn fq5 rfl
  have t5_5 : gn h5 84 24 = gn h0 84 24 := fr_gn fq5 rfl
  have t5_6 : gn h5 84 27 = gn h0 84 27 := fr_gn fq5 rfl
  have t5_7 : gn h5 84 28 = gn h0 84 28 := fr_gn fq5 rfl
  have t5_8 : gn h5 84 29 = gn h0 84 29 := fr_gn fq5 rfl
  show Ends _ _ (28, lv3, [.int (nJ v5)], h5, 0, 0) _
  refine E_is rfl (fun lv6 L6_2 kp6 => ?_)
  have L6_0 := kp6 0 _ (nbz rfl) rfl L3_0
  have L6_1 := kp6 1 _ (nbz rfl) rfl L3_1
  refine E_al rfl L6_0 ?_
  refine E_ci 4 rfl ci4 ?_
  refine E_al rfl L6_0 ?_
  refine E_ci 4 rfl ci4 ?_
  refine E_call rfl (Sp_le (by first | exact Nat.add_le_add_left (Nat.le_of_ble_eq_true rfl) _ | exact Nat.le_of_ble_eq_true rfl | omega) (sp_hasRead (d := 0) hh5 (by omega) rfl (by decide))) (chk77 hh5 rfl rfl (by show 2 ≤ 8; decide)) (fun h7 r7 => ?_)
  rintro ⟨e7, f7⟩
  rw [e7, f7]
  have b7 : gn h5 84 28 ≤ 8 := gn_hi hh5 rfl (by decide)
  show Ends _ _ (36, lv6, [.int (nJ (gn h5 84 28)), .int (nJ 4), .ref 77], h5, 0, 0) _
  refine E_call rfl (Sp_le (by first | exact Nat.add_le_add_left (Nat.le_of_ble_eq_true rfl) _ | exact Nat.le_of_ble_eq_true rfl | omega) (sp_laysBlocks4 (d := 0) hh5 (by omega))) (chk77 hh5 rfl rfl (by show 0 ≤ 8; decide)) (fun h8 r8 => ?_)
  rintro ⟨e8, hh8, fq8, cq8⟩
  rw [e8]
  have fr8 : fr_g JX h0 h8 := fr_trans fr5 (fr_wk rfl fq8)
  have t8_0 : gn h8 77 6 = gn h5 77 6 := fr_gn fq8 rfl
  have t8_1 : gn h8 77 7 = gn h5 77 7 := fr_gn fq8 rfl
  have t8_2 : gn h8 77 8 = gn h5 77 8 := fr_gn fq8 rfl
  have t8_3 : gn h8 77 9 = gn h5 77 9 := fr_gn fq8 rfl
  have t8_4 : gn h8 77 12 = gn h5 77 12 := fr_gn fq8 rfl
  have t8_5 : gn h8 84 24 = gn h5 84 24 := fr_gn fq8 rfl
  have t8_6 : gn h8 84 27 = gn h5 84 27 := fr_gn fq8 rfl
  have t8_7 : gn h8 84 28 = gn h5 84 28 := fr_gn fq8 rfl
  have t8_8 : gn h8 84 29 = gn h5 84 29 := fr_gn fq8 rfl
  have z86 : gn h5 86 = gn h0 86 := funext (fun k => fr_gn fq5 (rg_no rfl _))
  have z28 : gn h5 84 28 = gn h0 84 28 := by omega
  rw [z86, z28] at cq8
  have y86 : ∀ k, gn h8 86 k = gn h0 86 k := fun k => by rw [fr_gn fq8 (rg_no rfl _), z86]
  show Ends _ _ (39, lv6, [], h8, 0, 0) _
  refine E_al rfl L6_0 ?_
  have b9 : gn h8 77 12 ≤ 3 := gn_hi hh8 rfl (by decide)
  refine E_gf rfl hh8 rfl (gi_gn hh8 rfl (by decide)) ?_
  by_cases hb10 : ¬ (gn h8 77 12) = 0
  · refine E_ifT rfl (decide_eq_true (fun q => hb10 ((nJ_eq0 (by omega)).mp q))) ?_
    refine jl_tail hh0 hJ lv6 hh8 (by omega) (by omega) (by omega) (by omega) fr8 (by omega) (by omega) y86 rfl (by omega) (by omega) (fun q => absurd q hb10) L6_0 L6_1 L6_2
  · refine E_ifF rfl (decide_eq_false (fun q => hb10 (fun z => q ((nJ_eq0 (by omega)).mpr z)))) ?_
    refine E_al rfl L6_0 ?_
    have b11 : gn h8 77 8 ≤ 4 := gn_hi hh8 rfl (by decide)
    refine E_gf rfl hh8 rfl (gi_gn hh8 rfl (by decide)) ?_
    refine E_ci 2 rfl ci2 ?_
    by_cases hb12 : ¬ (gn h8 77 8) = 2
    · refine E_icT rfl (decide_eq_true (fun q => hb12 ((nJ_eq (by omega) (by omega)).mp q))) ?_
      refine jl_tail hh0 hJ lv6 hh8 (by omega) (by omega) (by omega) (by omega) fr8 (by omega) (by omega) y86 rfl (by omega) (by omega) (fun _ q => absurd q (by omega)) L6_0 L6_1 L6_2
    · refine E_icF rfl (decide_eq_false (fun q => hb12 (fun z => q ((nJ_eq (by omega) (by omega)).mpr z)))) ?_
      refine E_al rfl L6_0 ?_
      refine E_gf rfl hh8 rfl (rfl) ?_
      refine E_i2l rfl ?_
      refine E_c rfl ?_
      refine E_al rfl L6_0 ?_
      refine E_ci 0 rfl ci0 ?_
      refine E_call rfl (Sp_le (by first | exact Nat.add_le_add_left (Nat.le_of_ble_eq_true rfl) _ | exact Nat.le_of_ble_eq_true rfl | omega) (sp_hasRead (d := 0) hh8 (by omega) rfl (by decide))) (chk77 hh8 rfl rfl (by show 4 ≤ 8; decide)) (fun h13 r13 => ?_)
      rintro ⟨e13, f13⟩
      rw [e13, f13]
      have b13 : gn h8 84 24 ≤ 8 := gn_hi hh8 rfl (by decide)
      show Ends _ _ (65, lv6, [.int (nJ (gn h8 84 24)), .long (1), .long ((gi h8 77 10)).toInt64], h8, 0, 0) _
      refine E_i2l rfl ?_
      refine E_c rfl ?_
      refine E_lbin rfl ?_
      refine E_call rfl (sp_in (a := ((gi h8 77 10)).toInt) (b := 1) (c := (((((gn h8 84 24)) : Nat) : Int) + 1)) (i2l_toInt _) rfl (i2l_add1 (by omega))) (chkS rfl (by show 0 ≤ 8; decide)) (fun h14 r14 => ?_)
      rintro ⟨e14, f14⟩
      rw [e14, f14]
      show Ends _ _ (71, lv6, [.int (zb (1 ≤ ((gi h8 77 10)).toInt ∧ ((gi h8 77 10)).toInt ≤ (((((gn h8 84 24)) : Nat) : Int) + 1)))], h8, 0, 0) _
      by_cases hb15 : ¬ (1 ≤ ((gi h8 77 10)).toInt ∧ ((gi h8 77 10)).toInt ≤ (((((gn h8 84 24)) : Nat) : Int) + 1))
      · refine E_ifT rfl (by rw [zb_F hb15]; rfl) ?_
        refine jl_tail hh0 hJ lv6 hh8 (by omega) (by omega) (by omega) (by omega) fr8 (by omega) (by omega) y86 rfl (by omega) (by omega) (fun _ _ b b1 b2 e => absurd ⟨(by rw [e, nJ_toInt (by omega)]; omega), (by rw [e, nJ_toInt (by omega)]; omega)⟩ hb15) L6_0 L6_1 L6_2
      · refine E_ifF rfl (by rw [zb_T (Classical.not_not.mp hb15)]; rfl) ?_
        have hin := Classical.not_not.mp hb15
        obtain ⟨b9, hb9, hbe⟩ := nJ_of2 (n := gn h8 84 24 + 1) (x := gi h8 77 10) (by omega) (by have := hin.2; omega)
        have hb1 : 1 ≤ b9 := by have h9 := hin.1; rw [hbe, nJ_toInt (by omega)] at h9; omega
        refine E_al rfl L6_0 ?_
        refine E_il rfl L6_2 ?_
        refine E_al rfl L6_0 ?_
        refine E_gf rfl hh8 rfl (show gi h8 77 10 = nJ b9 from hbe) ?_
        refine E_al rfl L6_0 ?_
        refine E_ci 0 rfl ci0 ?_
        refine E_call rfl (Sp_le (by first | exact Nat.add_le_add_left (Nat.le_of_ble_eq_true rfl) _ | exact Nat.le_of_ble_eq_true rfl | omega) (sp_hasRead (d := 0) hh8 (by omega) rfl (by decide))) (chk77 hh8 rfl rfl (by show 3 ≤ 8; decide)) (fun h16 r16 => ?_)
        rintro ⟨e16, f16⟩
        rw [e16, f16]
        have b16 : gn h8 84 24 ≤ 8 := gn_hi hh8 rfl (by decide)
        show Ends _ _ (85, lv6, [.int (nJ (gn h8 84 24)), .int (nJ b9), .int (nJ v5), .ref 77], h8, 0, 0) _
        refine E_ci 1 rfl ci1 ?_
        refine E_bin rfl (nJ_add _ _) ?_
        refine E_call rfl (Sp_le (by first | exact Nat.add_le_add_left (Nat.le_of_ble_eq_true rfl) _ | exact Nat.le_of_ble_eq_true rfl | omega) (sp_mayJoin (d := 0) hh8 (by omega) (by omega) (by omega) (by omega) (by omega) (by omega))) (chk77 hh8 rfl rfl (by show 0 ≤ 8; decide)) (fun h17 r17 => ?_)
        rintro ⟨hh17, fq17, f17⟩
        have fr17 : fr_g JX h0 h17 := fr_trans fr8 (fr_wk rfl fq17)
        have t17_0 : gn h17 77 6 = gn h8 77 6 := fr_gn fq17 rfl
        have t17_1 : gn h17 77 7 = gn h8 77 7 := fr_gn fq17 rfl
        have t17_2 : gn h17 77 8 = gn h8 77 8 := fr_gn fq17 rfl
        have t17_3 : gn h17 77 9 = gn h8 77 9 := fr_gn fq17 rfl
        have t17_4 : gn h17 77 12 = gn h8 77 12 := fr_gn fq17 rfl
        have t17_5 : gn h17 84 24 = gn h8 84 24 := fr_gn fq17 rfl
        have t17_6 : gn h17 84 27 = gn h8 84 27 := fr_gn fq17 rfl
        have t17_7 : gn h17 84 28 = gn h8 84 28 := fr_gn fq17 rfl
        have t17_8 : gn h17 84 29 = gn h8 84 29 := fr_gn fq17 rfl
        have v86 : ∀ k, gn h17 86 k = gn h0 86 k := fun k => by rw [fr_gn fq17 rfl]; exact y86 k
        have v10 : gi h17 77 10 = nJ b9 := by rw [fr_gi fq17 rfl]; exact hbe
        rcases f17 with f17 | ⟨f17, ne17⟩
        · rw [f17]
          show Ends _ _ (90, lv6, [.int (nJ 0)], h17, 0, 0) _
          refine E_ifF rfl (by decide) ?_
          refine E_al rfl L6_0 ?_
          refine E_ci 2 rfl ci2 ?_
          refine E_call rfl (Sp_le (by first | exact Nat.add_le_add_left (Nat.le_of_ble_eq_true rfl) _ | exact Nat.le_of_ble_eq_true rfl | omega) (sp_fails (d := 0) (k := 2) hh17 (by omega) (by omega))) (chk77 hh17 rfl rfl (by show 0 ≤ 8; decide)) (fun h18 r18 => ?_)
          rintro ⟨e18, hh18, fq18, mo18⟩
          rw [e18]
          have fr18 : fr_g JX h0 h18 := fr_trans fr17 (fr_wk rfl fq18)
          have t18_0 : gn h18 77 6 = gn h17 77 6 := fr_gn fq18 rfl
          have t18_1 : gn h18 77 7 = gn h17 77 7 := fr_gn fq18 rfl
          have t18_2 : gn h18 77 8 = gn h17 77 8 := fr_gn fq18 rfl
          have t18_3 : gn h18 77 9 = gn h17 77 9 := fr_gn fq18 rfl
          have t18_5 : gn h18 84 24 = gn h17 84 24 := fr_gn fq18 rfl
          have t18_6 : gn h18 84 27 = gn h17 84 27 := fr_gn fq18 rfl
          have t18_7 : gn h18 84 28 = gn h17 84 28 := fr_gn fq18 rfl
          have t18_8 : gn h18 84 29 = gn h17 84 29 := fr_gn fq18 rfl
          show Ends _ _ (98, lv6, [], h18, 0, 0) _
          have x86 : ∀ k, gn h18 86 k = gn h0 86 k := fun k => by rw [fr_gn fq18 (rg_no rfl _)]; exact v86 k
          refine jl_tail hh0 hJ lv6 hh18 (by omega) (by omega) (by omega) (by omega) fr18 (by omega) (by omega) x86 rfl (by omega) (by omega) (fun q => absurd q mo18) L6_0 L6_1 L6_2
        · rw [f17]
          show Ends _ _ (90, lv6, [.int (nJ 1)], h17, 0, 0) _
          refine E_ifT rfl (by decide) ?_
          refine jl_tail hh0 hJ lv6 hh17 (by omega) (by omega) (by omega) (by omega) fr17 (by omega) (by omega) v86 rfl (by omega) (by omega) (fun _ _ b b1 b2 e => ?_) L6_0 L6_1 L6_2
          rw [v10] at e
          have hbb : b9 = b := (nJ_eq (by omega) (by omega)).mp e
          subst hbb
          rw [← cq8 _ (by omega), ← cq8 _ (by omega)]
          exact ne17
noncomputable def W4 (h : pm_H) : Prop := gn h 84 27 ≤ gn h 84 24 ∧ (∀ c, c < gn h 84 27 → 1 ≤ gn h 85 (64 + 2 * c)) ∧ JN h ∧ gn h 84 29 = 0
theorem JN_eq {h h' : pm_H} (h1 : gn h' 84 28 = gn h 84 28) (h2 : ∀ k, gn h' 86 k = gn h 86 k) (J : JN h) : JN h' := by
  have e : gn h' 86 = gn h 86 := funext h2
  unfold JN at J ⊢
  rw [h1, e]
  exact J
theorem W4_eq {h h' : pm_H} (h1 : ∀ k, gn h' 84 k = gn h 84 k) (h2 : ∀ k, gn h' 85 k = gn h 85 k) (h3 : ∀ k, gn h' 86 k = gn h 86 k) (W : W4 h) : W4 h' := by
  obtain ⟨w1, w2, w3, w4⟩ := W
  refine ⟨by rw [h1, h1]; exact w1, fun c hc => ?_, JN_eq (h1 28) h3 w3, by rw [h1]; exact w4⟩
  rw [h1] at hc
  rw [h2]
  exact w2 c hc
theorem W4_fr {M : List Rng} {h h' : pm_H} (hM : M.all (fun r => !(Nat.beq r.1 84) && (!(Nat.beq r.1 85) && !(Nat.beq r.1 86))) = true) (hf : fr_g M h h') (W : W4 h) : W4 h' := by
  have hm : ∀ a, (a = 84 ∨ a = 85 ∨ a = 86) → ∀ k, gn h' a k = gn h a k := fun a ha k => fr_gn hf (rg_no (List.all_eq_true.mpr fun q hq => by
    have := List.all_eq_true.mp hM q hq
    simp only [Bool.and_eq_true] at this
    rcases ha with rfl | rfl | rfl
    · exact this.1
    · exact this.2.1
    · exact this.2.2) k)
  exact W4_eq (hm 84 (.inl rfl)) (hm 85 (.inr (.inl rfl))) (hm 86 (.inr (.inr rfl))) W
noncomputable def LX : List Rng := [(77, 7, 13), (85, 64, 79), (84, 27, 28), (86, 64, 79), (101, 0, 9)]
theorem sp_lineHere {h0 : pm_H} {d : Nat} (hh0 : HH h0) (hr1 : gn h0 77 9 ≤ gn h0 77 7) (hr2 : gn h0 77 7 ≤ gn h0 77 6) (hr3 : gn h0 77 8 = 0 ∨ gn h0 77 9 < gn h0 77 7) (hW : W4 h0) : Sp (d + 10) 304 h0 [.ref 77] (fun h' r => r = none ∧ RR h' ∧ fr_g LX h0 h' ∧ gn h0 77 9 ≤ gn h' 77 9 ∧ W4 h') := by
  refine Sp_of aiX9_lineHere rfl rfl rfl ?_
  have L0 : pm_get (lv_args 0 [.ref 77]) 0 = some (.ref 77) := rfl
  generalize lv_args 0 [.ref 77] = lv at L0 ⊢
  have h5 := b500 hh0
  refine E_al rfl L0 ?_
  refine E_c rfl ?_
  refine E_call rfl (Sp_le (by first | exact Nat.add_le_add_left (Nat.le_of_ble_eq_true rfl) _ | exact Nat.le_of_ble_eq_true rfl | omega) (sp_is (d := 0) hh0)) (chk77 hh0 rfl rfl (by show 0 ≤ 8; decide)) (fun h1 r1 => ?_)
  rintro ⟨e1, f1⟩
  rw [e1]
  rcases f1 with f1 | ⟨f1, ib1, it1⟩
  · rw [f1]
    show Ends _ _ (7, lv, [.int (nJ 0)], h0, 0, 0) _
    refine E_ifT rfl (by decide) ?_
    refine E_al rfl L0 ?_
    refine E_c rfl ?_
    refine E_call rfl (Sp_le (by first | exact Nat.add_le_add_left (Nat.le_of_ble_eq_true rfl) _ | exact Nat.le_of_ble_eq_true rfl | omega) (sp_is (d := 0) hh0)) (chk77 hh0 rfl rfl (by show 0 ≤ 8; decide)) (fun h2 r2 => ?_)
    rintro ⟨e2, f2⟩
    rw [e2]
    rcases f2 with f2 | ⟨f2, ib2, it2⟩
    · rw [f2]
      show Ends _ _ (54, lv, [.int (nJ 0)], h0, 0, 0) _
      refine E_ifT rfl (by decide) ?_
      refine E_al rfl L0 ?_
      refine E_ci 1 rfl ci1 ?_
      refine E_call rfl (Sp_le (by first | exact Nat.add_le_add_left (Nat.le_of_ble_eq_true rfl) _ | exact Nat.le_of_ble_eq_true rfl | omega) (sp_fails (d := 0) (k := 1) hh0 (by omega) (by omega))) (chk77 hh0 rfl rfl (by show 0 ≤ 8; decide)) (fun h3 r3 => ?_)
      rintro ⟨e3, hh3, fq3, mo3⟩
      rw [e3]
      have fr3 : fr_g LX h0 h3 := fr_trans (fr_rf LX h0) (fr_wk rfl fq3)
      have t3_0 : gn h3 77 6 = gn h0 77 6 := fr_gn fq3 rfl
      have t3_1 : gn h3 77 7 = gn h0 77 7 := fr_gn fq3 rfl
      have t3_2 : gn h3 77 8 = gn h0 77 8 := fr_gn fq3 rfl
      have t3_3 : gn h3 77 9 = gn h0 77 9 := fr_gn fq3 rfl
      have t3_5 : gn h3 84 24 = gn h0 84 24 := fr_gn fq3 rfl
      have t3_6 : gn h3 84 27 = gn h0 84 27 := fr_gn fq3 rfl
      show Ends _ _ (73, lv, [], h3, 0, 0) _
      have wy3 : W4 h3 := W4_fr rfl fq3 hW
      exact E_ret rfl ⟨rfl, ⟨hh3, by omega, by omega, by omega⟩, fr3, by omega, wy3⟩
    · rw [f2]
      show Ends _ _ (54, lv, [.int (nJ 1)], h0, 0, 0) _
      refine E_ifF rfl (by decide) ?_
      refine E_al rfl L0 ?_
      refine E_call rfl (Sp_le (by first | exact Nat.add_le_add_left (Nat.le_of_ble_eq_true rfl) _ | exact Nat.le_of_ble_eq_true rfl | omega) (sp_follows (d := 0) hh0 (by omega))) (chk77 hh0 rfl rfl (by show 0 ≤ 8; decide)) (fun h4 r4 => ?_)
      rintro ⟨e4, ⟨hh4, ra4, rb4, rc4⟩, fq4, mo4⟩
      rw [e4]
      have fr4 : fr_g LX h0 h4 := fr_trans (fr_rf LX h0) (fr_wk rfl fq4)
      have t4_0 : gn h4 77 6 = gn h0 77 6 := fr_gn fq4 rfl
      have t4_4 : gn h4 77 12 = gn h0 77 12 := fr_gn fq4 rfl
      have t4_5 : gn h4 84 24 = gn h0 84 24 := fr_gn fq4 rfl
      have t4_6 : gn h4 84 27 = gn h0 84 27 := fr_gn fq4 rfl
      show Ends _ _ (61, lv, [], h4, 0, 0) _
      have wy4 : W4 h4 := W4_fr rfl fq4 hW
      refine E_al rfl L0 ?_
      refine E_call rfl (Sp_le (by first | exact Nat.add_le_add_left (Nat.le_of_ble_eq_true rfl) _ | exact Nat.le_of_ble_eq_true rfl | omega) (sp_joinLine (d := 0) hh4 (by omega) (by omega) (by omega) wy4.2.2.1)) (chk77 hh4 rfl rfl (by show 0 ≤ 8; decide)) (fun h5 r5 => ?_)
      rintro ⟨e5, ⟨hh5, ra5, rb5, rc5⟩, fq5, mo5, jn5⟩
      rw [e5]
      have fr5 : fr_g LX h0 h5 := fr_trans fr4 (fr_wk rfl fq5)
      have wy5 : W4 h5 := ⟨by rw [show gn h5 84 27 = gn h4 84 27 from fr_gn fq5 rfl, show gn h5 84 24 = gn h4 84 24 from fr_gn fq5 rfl]; exact wy4.1, fun c hc => by rw [show gn h5 84 27 = gn h4 84 27 from fr_gn fq5 rfl] at hc; rw [fr_gn fq5 (rg_no rfl _)]; exact wy4.2.1 c hc, jn5, by rw [show gn h5 84 29 = gn h4 84 29 from fr_gn fq5 rfl]; exact wy4.2.2.2⟩
      show Ends _ _ (65, lv, [], h5, 0, 0) _
      refine E_goto rfl ?_
      exact E_ret rfl ⟨rfl, ⟨hh5, by omega, by omega, by omega⟩, fr5, by omega, wy5⟩
  · rw [f1]
    show Ends _ _ (7, lv, [.int (nJ 1)], h0, 0, 0) _
    refine E_ifF rfl (by decide) ?_
    refine E_al rfl L0 ?_
    refine E_ci 3 rfl ci3 ?_
    refine E_call rfl (Sp_le (by first | exact Nat.add_le_add_left (Nat.le_of_ble_eq_true rfl) _ | exact Nat.le_of_ble_eq_true rfl | omega) (sp_hasRead (d := 0) hh0 (by omega) rfl (by decide))) (chk77 hh0 rfl rfl (by show 0 ≤ 8; decide)) (fun h6 r6 => ?_)
    rintro ⟨e6, f6⟩
    rw [e6, f6]
    have b6 : gn h0 84 27 ≤ 8 := gn_hi hh0 rfl (by decide)
    show Ends _ _ (15, lv, [.int (nJ (gn h0 84 27))], h0, 0, 0) _
    refine E_al rfl L0 ?_
    refine E_ci 0 rfl ci0 ?_
    refine E_call rfl (Sp_le (by first | exact Nat.add_le_add_left (Nat.le_of_ble_eq_true rfl) _ | exact Nat.le_of_ble_eq_true rfl | omega) (sp_hasRead (d := 0) hh0 (by omega) rfl (by decide))) (chk77 hh0 rfl rfl (by show 1 ≤ 8; decide)) (fun h7 r7 => ?_)
    rintro ⟨e7, f7⟩
    rw [e7, f7]
    have b7 : gn h0 84 24 ≤ 8 := gn_hi hh0 rfl (by decide)
    show Ends _ _ (20, lv, [.int (nJ (gn h0 84 24)), .int (nJ (gn h0 84 27))], h0, 0, 0) _
    by_cases hb8 : ¬ (gn h0 84 27) = (gn h0 84 24)
    · refine E_icT rfl (decide_eq_true (fun q => hb8 ((nJ_eq (by omega) (by omega)).mp q))) ?_
      refine E_al rfl L0 ?_
      have b9 : gn h0 77 12 ≤ 3 := gn_hi hh0 rfl (by decide)
      refine E_gf rfl hh0 rfl (gi_gn hh0 rfl (by decide)) ?_
      by_cases hb10 : (gn h0 77 12) = 0
      · refine E_ifT rfl (decide_eq_true ((nJ_eq0 (by omega)).mpr hb10)) ?_
        refine E_al rfl L0 ?_
        refine E_call rfl (Sp_le (by first | exact Nat.add_le_add_left (Nat.le_of_ble_eq_true rfl) _ | exact Nat.le_of_ble_eq_true rfl | omega) (sp_follows (d := 0) hh0 (by omega))) (chk77 hh0 rfl rfl (by show 0 ≤ 8; decide)) (fun h11 r11 => ?_)
        rintro ⟨e11, ⟨hh11, ra11, rb11, rc11⟩, fq11, mo11⟩
        rw [e11]
        have fr11 : fr_g LX h0 h11 := fr_trans (fr_rf LX h0) (fr_wk rfl fq11)
        have t11_0 : gn h11 77 6 = gn h0 77 6 := fr_gn fq11 rfl
        have t11_4 : gn h11 77 12 = gn h0 77 12 := fr_gn fq11 rfl
        have t11_5 : gn h11 84 24 = gn h0 84 24 := fr_gn fq11 rfl
        have t11_6 : gn h11 84 27 = gn h0 84 27 := fr_gn fq11 rfl
        show Ends _ _ (40, lv, [], h11, 0, 0) _
        have wy11 : W4 h11 := W4_fr rfl fq11 hW
        refine E_al rfl L0 ?_
        have wA := wy11.1
        refine E_call rfl (Sp_le (by first | exact Nat.add_le_add_left (Nat.le_of_ble_eq_true rfl) _ | exact Nat.le_of_ble_eq_true rfl | omega) (sp_carLine (d := 0) hh11 (by omega) (by omega) (by omega) (by omega) wy11.2.1)) (chk77 hh11 rfl rfl (by show 0 ≤ 8; decide)) (fun h12 r12 => ?_)
        rintro ⟨e12, ⟨hh12, ra12, rb12, rc12⟩, fq12, mo12, ca12, cb12⟩
        rw [e12]
        have fr12 : fr_g LX h0 h12 := fr_trans fr11 (fr_wk rfl fq12)
        have wy12 : W4 h12 := ⟨by rw [ca12, show gn h12 84 24 = gn h11 84 24 from fr_gn fq12 rfl]; omega, fun c hc => cb12 c (by rw [← ca12]; exact hc), JN_eq (fr_gn fq12 rfl) (fun k => fr_gn fq12 (rg_no rfl _)) wy11.2.2.1, by rw [show gn h12 84 29 = gn h11 84 29 from fr_gn fq12 rfl]; exact wy11.2.2.2⟩
        show Ends _ _ (44, lv, [], h12, 0, 0) _
        refine E_goto rfl ?_
        exact E_ret rfl ⟨rfl, ⟨hh12, by omega, by omega, by omega⟩, fr12, by omega, wy12⟩
      · refine E_ifF rfl (decide_eq_false (fun q => hb10 ((nJ_eq0 (by omega)).mp q))) ?_
        exact E_ret rfl ⟨rfl, ⟨hh0, by omega, by omega, by omega⟩, (fr_rf LX h0), by omega, hW⟩
    · refine E_icF rfl (decide_eq_false (fun q => hb8 (fun z => q ((nJ_eq (by omega) (by omega)).mpr z)))) ?_
      refine E_al rfl L0 ?_
      refine E_ci 3 rfl ci3 ?_
      refine E_call rfl (Sp_le (by first | exact Nat.add_le_add_left (Nat.le_of_ble_eq_true rfl) _ | exact Nat.le_of_ble_eq_true rfl | omega) (sp_fails (d := 0) (k := 3) hh0 (by omega) (by omega))) (chk77 hh0 rfl rfl (by show 0 ≤ 8; decide)) (fun h13 r13 => ?_)
      rintro ⟨e13, hh13, fq13, mo13⟩
      rw [e13]
      have fr13 : fr_g LX h0 h13 := fr_trans (fr_rf LX h0) (fr_wk rfl fq13)
      have t13_0 : gn h13 77 6 = gn h0 77 6 := fr_gn fq13 rfl
      have t13_1 : gn h13 77 7 = gn h0 77 7 := fr_gn fq13 rfl
      have t13_2 : gn h13 77 8 = gn h0 77 8 := fr_gn fq13 rfl
      have t13_3 : gn h13 77 9 = gn h0 77 9 := fr_gn fq13 rfl
      have t13_5 : gn h13 84 24 = gn h0 84 24 := fr_gn fq13 rfl
      have t13_6 : gn h13 84 27 = gn h0 84 27 := fr_gn fq13 rfl
      show Ends _ _ (28, lv, [], h13, 0, 0) _
      have wy13 : W4 h13 := W4_fr rfl fq13 hW
      refine E_al rfl L0 ?_
      have b14 : gn h13 77 12 ≤ 3 := gn_hi hh13 rfl (by decide)
      refine E_gf rfl hh13 rfl (gi_gn hh13 rfl (by decide)) ?_
      by_cases hb15 : (gn h13 77 12) = 0
      · refine E_ifT rfl (decide_eq_true ((nJ_eq0 (by omega)).mpr hb15)) ?_
        refine E_al rfl L0 ?_
        refine E_call rfl (Sp_le (by first | exact Nat.add_le_add_left (Nat.le_of_ble_eq_true rfl) _ | exact Nat.le_of_ble_eq_true rfl | omega) (sp_follows (d := 0) hh13 (by omega))) (chk77 hh13 rfl rfl (by show 0 ≤ 8; decide)) (fun h16 r16 => ?_)
        rintro ⟨e16, ⟨hh16, ra16, rb16, rc16⟩, fq16, mo16⟩
        rw [e16]
        have fr16 : fr_g LX h0 h16 := fr_trans fr13 (fr_wk rfl fq16)
        have t16_0 : gn h16 77 6 = gn h13 77 6 := fr_gn fq16 rfl
        have t16_4 : gn h16 77 12 = gn h13 77 12 := fr_gn fq16 rfl
        have t16_5 : gn h16 84 24 = gn h13 84 24 := fr_gn fq16 rfl
        have t16_6 : gn h16 84 27 = gn h13 84 27 := fr_gn fq16 rfl
        show Ends _ _ (40, lv, [], h16, 0, 0) _
        have wy16 : W4 h16 := W4_fr rfl fq16 wy13
        refine E_al rfl L0 ?_
        have wA := wy16.1
        refine E_call rfl (Sp_le (by first | exact Nat.add_le_add_left (Nat.le_of_ble_eq_true rfl) _ | exact Nat.le_of_ble_eq_true rfl | omega) (sp_carLine (d := 0) hh16 (by omega) (by omega) (by omega) (by omega) wy16.2.1)) (chk77 hh16 rfl rfl (by show 0 ≤ 8; decide)) (fun h17 r17 => ?_)
        rintro ⟨e17, ⟨hh17, ra17, rb17, rc17⟩, fq17, mo17, ca17, cb17⟩
        rw [e17]
        have fr17 : fr_g LX h0 h17 := fr_trans fr16 (fr_wk rfl fq17)
        have wy17 : W4 h17 := ⟨by rw [ca17, show gn h17 84 24 = gn h16 84 24 from fr_gn fq17 rfl]; omega, fun c hc => cb17 c (by rw [← ca17]; exact hc), JN_eq (fr_gn fq17 rfl) (fun k => fr_gn fq17 (rg_no rfl _)) wy16.2.2.1, by rw [show gn h17 84 29 = gn h16 84 29 from fr_gn fq17 rfl]; exact wy16.2.2.2⟩
        show Ends _ _ (44, lv, [], h17, 0, 0) _
        refine E_goto rfl ?_
        exact E_ret rfl ⟨rfl, ⟨hh17, by omega, by omega, by omega⟩, fr17, by omega, wy17⟩
      · refine E_ifF rfl (decide_eq_false (fun q => hb15 ((nJ_eq0 (by omega)).mp q))) ?_
        exact E_ret rfl ⟨rfl, ⟨hh13, by omega, by omega, by omega⟩, fr13, by omega, wy13⟩
end

