section
theorem bd_85o {k : Nat} (hk : k < 80) (e : k % 2 = 1) : bd 85 k = some (0, 99) := bd_pat (p := [(0, 8), (0, 99)]) rfl hk (by show [(0, 8), (0, 99)][k % 2]? = _; rw [e]; rfl)
noncomputable def CX : List Rng := [(77, 7, 13), (85, 64, 79), (84, 27, 27)]
theorem sp_carLine {h0 : pm_H} {d : Nat} (hh0 : HH h0) (hr1 : gn h0 77 9 ≤ gn h0 77 7) (hr2 : gn h0 77 7 ≤ gn h0 77 6) (hr3 : gn h0 77 8 = 0 ∨ gn h0 77 9 < gn h0 77 7) (hc : gn h0 84 27 < gn h0 84 24) (ht : ∀ c, c < gn h0 84 27 → 1 ≤ gn h0 85 (64 + 2 * c)) : Sp (d + 8) 223 h0 [.ref 77] (fun h' r => r = none ∧ RR h' ∧ fr_g CX h0 h' ∧ gn h0 77 9 ≤ gn h' 77 9 ∧ gn h' 84 27 = gn h0 84 27 + 1 ∧ ∀ c, c < gn h0 84 27 + 1 → 1 ≤ gn h' 85 (64 + 2 * c)) := by
  refine Sp_of aiX9_carLine rfl rfl rfl ?_
  have L0 : pm_get (lv_args 0 [.ref 77]) 0 = some (.ref 77) := rfl
  generalize lv_args 0 [.ref 77] = lv at L0 ⊢
  have h5 := b500 hh0
  refine E_ci 2 rfl ci2 ?_
  refine E_ci 32 rfl ci32 ?_
  refine E_al rfl L0 ?_
  refine E_ci 3 rfl ci3 ?_
  refine E_call rfl (Sp_le (by first | exact Nat.add_le_add_left (Nat.le_of_ble_eq_true rfl) _ | exact Nat.le_of_ble_eq_true rfl | omega) (sp_hasRead (d := 0) hh0 (by omega) rfl (by decide))) (chk77 hh0 rfl rfl (by show 2 ≤ 8; decide)) (fun h1 r1 => ?_)
  rintro ⟨e1, f1⟩
  rw [e1, f1]
  have b1 : gn h0 84 27 ≤ 8 := gn_hi hh0 rfl (by decide)
  show Ends _ _ (8, lv, [.int (nJ (gn h0 84 27)), .int (nJ 32), .int (nJ 2)], h0, 0, 0) _
  refine E_bin rfl (nJ_add _ _) ?_
  refine E_bin rfl (nJ_mul _ _) ?_
  refine E_is rfl (fun lv2 L2_1 kp2 => ?_)
  have L2_0 := kp2 0 _ (nbz rfl) rfl L0
  refine E_al rfl L2_0 ?_
  refine E_gr rfl hh0 (q := 85) rfl ?_
  refine E_il rfl L2_1 ?_
  refine E_al rfl L2_0 ?_
  refine E_c rfl ?_
  refine E_ci 1 rfl ci1 ?_
  refine E_al rfl L2_0 ?_
  refine E_ci 0 rfl ci0 ?_
  refine E_call rfl (Sp_le (by first | exact Nat.add_le_add_left (Nat.le_of_ble_eq_true rfl) _ | exact Nat.le_of_ble_eq_true rfl | omega) (sp_hasRead (d := 0) hh0 (by omega) rfl (by decide))) (chk77 hh0 rfl rfl (by show 6 ≤ 8; decide)) (fun h3 r3 => ?_)
  rintro ⟨e3, f3⟩
  rw [e3, f3]
  have b3 : gn h0 84 24 ≤ 8 := gn_hi hh0 rfl (by decide)
  show Ends _ _ (26, lv2, [.int (nJ (gn h0 84 24)), .int (nJ 1), .long (12253591), .ref 77, .int (nJ (2 * (32 + (gn h0 84 27)))), .ref 85], h0, 0, 0) _
  refine E_call rfl (Sp_le (by first | exact Nat.add_le_add_left (Nat.le_of_ble_eq_true rfl) _ | exact Nat.le_of_ble_eq_true rfl | omega) (sp_number_ (d := 0) hh0 (by omega) (by omega) (by omega) (by omega) (by omega))) (chk77 hh0 rfl rfl (by show 2 ≤ 8; decide)) (fun h4 r4 => ?_)
  rintro ⟨⟨hh4, ra4, rb4, rc4⟩, fq4, mo4, v4, va4, vb4, f4, vc4⟩
  rw [f4]
  have fr4 : fr_g CX h0 h4 := fr_trans (fr_rf CX h0) (fr_wk rfl fq4)
  have t4_0 : gn h4 77 6 = gn h0 77 6 := fr_gn fq4 rfl
  have t4_5 : gn h4 84 24 = gn h0 84 24 := fr_gn fq4 rfl
  have t4_6 : gn h4 84 27 = gn h0 84 27 := fr_gn fq4 rfl
  have t4_7 : gn h4 84 28 = gn h0 84 28 := fr_gn fq4 rfl
  have t4_8 : gn h4 84 29 = gn h0 84 29 := fr_gn fq4 rfl
  have u4 : ∀ k, gn h4 85 k = gn h0 85 k := fun k => fr_gn fq4 (rg_no rfl _)
  show Ends _ _ (29, lv2, [.int (nJ v4), .int (nJ (2 * (32 + (gn h0 84 27)))), .ref 85], h4, 0, 0) _
  refine E_ias rfl hh4 rfl (by omega) (by decide) ?_
  have hh5 : HH (pt h4 85 ((2 * (32 + (gn h0 84 27)))) (nJ v4)) := HH_ptn hh4 (bd_85 (by omega) (by omega)) (by omega) (by omega) (by omega)
  have fr5 : fr_g CX h0 (pt h4 85 ((2 * (32 + (gn h0 84 27)))) (nJ v4)) := fr_ptr (l := 64) (u := 79) rfl (by omega) (by omega) fr4
  have t5_0 : gn (pt h4 85 ((2 * (32 + (gn h0 84 27)))) (nJ v4)) 77 6 = gn h4 77 6 := gn_ne (by first | exact gxx rfl | omega)
  have t5_1 : gn (pt h4 85 ((2 * (32 + (gn h0 84 27)))) (nJ v4)) 77 7 = gn h4 77 7 := gn_ne (by first | exact gxx rfl | omega)
  have t5_2 : gn (pt h4 85 ((2 * (32 + (gn h0 84 27)))) (nJ v4)) 77 8 = gn h4 77 8 := gn_ne (by first | exact gxx rfl | omega)
  have t5_3 : gn (pt h4 85 ((2 * (32 + (gn h0 84 27)))) (nJ v4)) 77 9 = gn h4 77 9 := gn_ne (by first | exact gxx rfl | omega)
  have t5_4 : gn (pt h4 85 ((2 * (32 + (gn h0 84 27)))) (nJ v4)) 77 12 = gn h4 77 12 := gn_ne (by first | exact gxx rfl | omega)
  have t5_5 : gn (pt h4 85 ((2 * (32 + (gn h0 84 27)))) (nJ v4)) 84 24 = gn h4 84 24 := gn_ne (by first | exact gxx rfl | omega)
  have t5_6 : gn (pt h4 85 ((2 * (32 + (gn h0 84 27)))) (nJ v4)) 84 27 = gn h4 84 27 := gn_ne (by first | exact gxx rfl | omega)
  have t5_7 : gn (pt h4 85 ((2 * (32 + (gn h0 84 27)))) (nJ v4)) 84 28 = gn h4 84 28 := gn_ne (by first | exact gxx rfl | omega)
  have t5_8 : gn (pt h4 85 ((2 * (32 + (gn h0 84 27)))) (nJ v4)) 84 29 = gn h4 84 29 := gn_ne (by first | exact gxx rfl | omega)
  generalize hz5 : (pt h4 85 ((2 * (32 + (gn h0 84 27)))) (nJ v4)) = g5 at hh5 fr5 t5_0 t5_1 t5_2 t5_3 t5_4 t5_5 t5_6 t5_7 t5_8 ⊢
  refine E_al rfl L2_0 ?_
  refine E_gr rfl hh5 (q := 85) rfl ?_
  refine E_il rfl L2_1 ?_
  refine E_ci 1 rfl ci1 ?_
  refine E_bin rfl (nJ_add _ _) ?_
  refine E_al rfl L2_0 ?_
  refine E_c rfl ?_
  refine E_ci 0 rfl ci0 ?_
  refine E_ci 99 rfl ci99 ?_
  refine E_call rfl (Sp_le (by first | exact Nat.add_le_add_left (Nat.le_of_ble_eq_true rfl) _ | exact Nat.le_of_ble_eq_true rfl | omega) (sp_number_ (d := 0) hh5 (by omega) (by omega) (by omega) (by omega) (by omega))) (chk77 hh5 rfl rfl (by show 2 ≤ 8; decide)) (fun h6 r6 => ?_)
  rintro ⟨⟨hh6, ra6, rb6, rc6⟩, fq6, mo6, v6, va6, vb6, f6, vc6⟩
  rw [f6]
  have fr6 : fr_g CX h0 h6 := fr_trans fr5 (fr_wk rfl fq6)
  have t6_0 : gn h6 77 6 = gn g5 77 6 := fr_gn fq6 rfl
  have t6_5 : gn h6 84 24 = gn g5 84 24 := fr_gn fq6 rfl
  have t6_6 : gn h6 84 27 = gn g5 84 27 := fr_gn fq6 rfl
  have t6_7 : gn h6 84 28 = gn g5 84 28 := fr_gn fq6 rfl
  have t6_8 : gn h6 84 29 = gn g5 84 29 := fr_gn fq6 rfl
  have u6 : ∀ k, gn h6 85 k = gn g5 85 k := fun k => fr_gn fq6 (rg_no rfl _)
  show Ends _ _ (47, lv2, [.int (nJ v6), .int (nJ ((2 * (32 + (gn h0 84 27))) + 1)), .ref 85], h6, 0, 0) _
  refine E_ias rfl hh6 rfl (by omega) (by decide) ?_
  have hh7 : HH (pt h6 85 (((2 * (32 + (gn h0 84 27))) + 1)) (nJ v6)) := HH_ptn hh6 (bd_85o (by omega) (by omega)) (by omega) (by omega) (by omega)
  have fr7 : fr_g CX h0 (pt h6 85 (((2 * (32 + (gn h0 84 27))) + 1)) (nJ v6)) := fr_ptr (l := 64) (u := 79) rfl (by omega) (by omega) fr6
  have t7_0 : gn (pt h6 85 (((2 * (32 + (gn h0 84 27))) + 1)) (nJ v6)) 77 6 = gn h6 77 6 := gn_ne (by first | exact gxx rfl | omega)
  have t7_1 : gn (pt h6 85 (((2 * (32 + (gn h0 84 27))) + 1)) (nJ v6)) 77 7 = gn h6 77 7 := gn_ne (by first | exact gxx rfl | omega)
  have t7_2 : gn (pt h6 85 (((2 * (32 + (gn h0 84 27))) + 1)) (nJ v6)) 77 8 = gn h6 77 8 := gn_ne (by first | exact gxx rfl | omega)
  have t7_3 : gn (pt h6 85 (((2 * (32 + (gn h0 84 27))) + 1)) (nJ v6)) 77 9 = gn h6 77 9 := gn_ne (by first | exact gxx rfl | omega)
  have t7_4 : gn (pt h6 85 (((2 * (32 + (gn h0 84 27))) + 1)) (nJ v6)) 77 12 = gn h6 77 12 := gn_ne (by first | exact gxx rfl | omega)
  have t7_5 : gn (pt h6 85 (((2 * (32 + (gn h0 84 27))) + 1)) (nJ v6)) 84 24 = gn h6 84 24 := gn_ne (by first | exact gxx rfl | omega)
  have t7_6 : gn (pt h6 85 (((2 * (32 + (gn h0 84 27))) + 1)) (nJ v6)) 84 27 = gn h6 84 27 := gn_ne (by first | exact gxx rfl | omega)
  have t7_7 : gn (pt h6 85 (((2 * (32 + (gn h0 84 27))) + 1)) (nJ v6)) 84 28 = gn h6 84 28 := gn_ne (by first | exact gxx rfl | omega)
  have t7_8 : gn (pt h6 85 (((2 * (32 + (gn h0 84 27))) + 1)) (nJ v6)) 84 29 = gn h6 84 29 := gn_ne (by first | exact gxx rfl | omega)
  generalize hz7 : (pt h6 85 (((2 * (32 + (gn h0 84 27))) + 1)) (nJ v6)) = g7 at hh7 fr7 t7_0 t7_1 t7_2 t7_3 t7_4 t7_5 t7_6 t7_7 t7_8 ⊢
  refine E_al rfl L2_0 ?_
  refine E_ci 3 rfl ci3 ?_
  refine E_al rfl L2_0 ?_
  refine E_ci 3 rfl ci3 ?_
  refine E_call rfl (Sp_le (by first | exact Nat.add_le_add_left (Nat.le_of_ble_eq_true rfl) _ | exact Nat.le_of_ble_eq_true rfl | omega) (sp_hasRead (d := 0) hh7 (by omega) rfl (by decide))) (chk77 hh7 rfl rfl (by show 2 ≤ 8; decide)) (fun h8 r8 => ?_)
  rintro ⟨e8, f8⟩
  rw [e8, f8]
  have b8 : gn g7 84 27 ≤ 8 := gn_hi hh7 rfl (by decide)
  show Ends _ _ (55, lv2, [.int (nJ (gn g7 84 27)), .int (nJ 3), .ref 77], g7, 0, 0) _
  refine E_ci 1 rfl ci1 ?_
  refine E_bin rfl (nJ_add _ _) ?_
  refine E_call rfl (Sp_le (by first | exact Nat.add_le_add_left (Nat.le_of_ble_eq_true rfl) _ | exact Nat.le_of_ble_eq_true rfl | omega) (sp_tells (d := 0) hh7 (by omega))) (chk77 hh7 rfl rfl (by show 0 ≤ 8; decide)) (fun h9 r9 => ?_)
  rintro ⟨e9, f9⟩
  have hh9 : HH (pt g7 84 27 (nJ (((gn g7 84 27) + 1)))) := HH_ptn hh7 rfl (by omega) (by omega) (by omega)
  have fr9 : fr_g CX h0 (pt g7 84 27 (nJ (((gn g7 84 27) + 1)))) := fr_ptr (l := 27) (u := 27) rfl (by omega) (by omega) fr7
  have t9_0 : gn (pt g7 84 27 (nJ (((gn g7 84 27) + 1)))) 77 6 = gn g7 77 6 := gn_ne (by first | exact gxx rfl | omega)
  have t9_1 : gn (pt g7 84 27 (nJ (((gn g7 84 27) + 1)))) 77 7 = gn g7 77 7 := gn_ne (by first | exact gxx rfl | omega)
  have t9_2 : gn (pt g7 84 27 (nJ (((gn g7 84 27) + 1)))) 77 8 = gn g7 77 8 := gn_ne (by first | exact gxx rfl | omega)
  have t9_3 : gn (pt g7 84 27 (nJ (((gn g7 84 27) + 1)))) 77 9 = gn g7 77 9 := gn_ne (by first | exact gxx rfl | omega)
  have t9_4 : gn (pt g7 84 27 (nJ (((gn g7 84 27) + 1)))) 77 12 = gn g7 77 12 := gn_ne (by first | exact gxx rfl | omega)
  have t9_5 : gn (pt g7 84 27 (nJ (((gn g7 84 27) + 1)))) 84 24 = gn g7 84 24 := gn_ne (by first | exact gxx rfl | omega)
  have t9_6 : gn (pt g7 84 27 (nJ (((gn g7 84 27) + 1)))) 84 27 = ((gn g7 84 27) + 1) := gn_ptn hh7 rfl (by omega) (by omega) (by omega)
  have t9_7 : gn (pt g7 84 27 (nJ (((gn g7 84 27) + 1)))) 84 28 = gn g7 84 28 := gn_ne (by first | exact gxx rfl | omega)
  have t9_8 : gn (pt g7 84 27 (nJ (((gn g7 84 27) + 1)))) 84 29 = gn g7 84 29 := gn_ne (by first | exact gxx rfl | omega)
  have u9 : ∀ k, gn (pt g7 84 27 (nJ (((gn g7 84 27) + 1)))) 85 k = gn g7 85 k := fun k => gn_ne (by first | exact gxx rfl | omega)
  have y9 : ∀ k, gn (pt g7 84 27 (nJ (((gn g7 84 27) + 1)))) 86 k = gn g7 86 k := fun k => gn_ne (by first | exact gxx rfl | omega)
  rw [e9, f9]
  show Ends _ _ (60, lv2, [], (pt g7 84 27 (nJ (((gn g7 84 27) + 1)))), 0, 0) _
  generalize hz9 : (pt g7 84 27 (nJ (((gn g7 84 27) + 1)))) = g9 at hh9 fr9 t9_0 t9_1 t9_2 t9_3 t9_4 t9_5 t9_6 t9_7 t9_8 u9 y9 ⊢
  refine E_ret rfl ⟨rfl, ⟨hh9, by omega, by omega, by omega⟩, fr9, by omega, by omega, fun c hc => ?_⟩
  rw [u9, ← hz7, gn_ne (by first | exact gxx rfl | omega), u6]
  by_cases e : c = gn h0 84 27
  · rw [e, ← hz5, show 64 + 2 * gn h0 84 27 = 2 * (32 + gn h0 84 27) by omega, gn_ptn hh4 (bd_85 (by omega) (by omega)) (by omega) (by omega) (by omega)]; exact va4
  · rw [← hz5, gn_ne (by first | exact gxx rfl | omega), u4]; exact ht c (by omega)
end
section
/-! by hand: the line of a join, a line (written by gen_t17.py) -/
theorem i2l_add1 {n : Nat} (h : n < 2147483647) : ((nJ n).toInt64 + 1).toInt = (n : Int) + 1 := by
  rw [Int64.toInt_add, i2l_nJ (by omega)]
  exact al_bmod (by show -9223372036854775808 ≤ (n : Int) + 1; omega) (by show (n : Int) + 1 ≤ 9223372036854775807; omega)
noncomputable def JX : List Rng := [(77, 7, 13), (86, 64, 79), (84, 28, 28), (101, 0, 9)]
theorem jl_tail {h0 h : pm_H} {d kk a : Nat} (hh0 : HH h0) (hJ : JN h0) (lv : List (Nat × Value)) (hh : HH h) (hr1 : gn h 77 9 ≤ gn h 77 7) (hr2 : gn h 77 7 ≤ gn h 77 6) (hr3 : gn h 77 8 = 0 ∨ gn h 77 9 < gn h 77 7) (hm : gn h0 77 9 ≤ gn h 77 9) (hfr : fr_g JX h0 h) (e84 : gn h 84 24 = gn h0 84 24) (e28 : gn h 84 28 = gn h0 84 28) (e86 : ∀ k, gn h 86 k = gn h0 86 k) (hkk0 : kk = 2 * (32 + min (gn h0 84 28) 7)) (ha1 : 1 ≤ a) (ha2 : a ≤ gn h0 84 24 + 1) (hcond : gn h 77 12 = 0 → gn h 77 8 = 2 → ∀ b, 1 ≤ b → b ≤ gn h0 84 24 + 1 → gi h 77 10 = nJ b → bk (gn h0 86) (gn h0 84 28) a ≠ bk (gn h0 86) (gn h0 84 28) b) (L0 : pm_get lv 0 = some (.ref 77)) (L1 : pm_get lv 1 = some (.int (nJ kk))) (L2 : pm_get lv 2 = some (.int (nJ a))) : Ends (pm_at tX9_joinLine) (pm_Rt pm_P (d + 7)) (98, lv, [], h, 0, 0) (fun h' r => r = none ∧ RR h' ∧ fr_g JX h0 h' ∧ gn h0 77 9 ≤ gn h' 77 9 ∧ JN h') := by
  have h5 := b500 hh
  have hP8 : gn h0 84 24 ≤ 8 := gn_hi hh0 rfl (by decide)
  have hj8 := hJ.1
  refine E_al rfl L0 ?_
  refine E_ci 1 rfl ci1 ?_
  refine E_al rfl L0 ?_
  refine E_ci 0 rfl ci0 ?_
  refine E_call rfl (Sp_le (by first | exact Nat.add_le_add_left (Nat.le_of_ble_eq_true rfl) _ | exact Nat.le_of_ble_eq_true rfl | omega) (sp_hasRead (d := 0) hh (by omega) rfl (by decide))) (chk77 hh rfl rfl (by show 2 ≤ 8; decide)) (fun h1 r1 => ?_)
  rintro ⟨e1, f1⟩
  rw [e1, f1]
  have b1 : gn h 84 24 ≤ 8 := gn_hi hh rfl (by decide)
  show Ends _ _ (105, lv, [.int (nJ (gn h 84 24)), .int (nJ 1), .ref 77], h, 0, 0) _
  refine E_ci 1 rfl ci1 ?_
  refine E_bin rfl (nJ_add _ _) ?_
  refine E_call rfl (Sp_le (by first | exact Nat.add_le_add_left (Nat.le_of_ble_eq_true rfl) _ | exact Nat.le_of_ble_eq_true rfl | omega) (sp_number (d := 0) hh (by omega) (by omega) (by omega) (by omega) (by omega))) (chk77 hh rfl rfl (by show 0 ≤ 8; decide)) (fun h2 r2 => ?_)
  rintro ⟨⟨hh2, ra2, rb2, rc2⟩, fq2, mo2, v2, va2, vb2, f2, vc2⟩
  rw [f2]
  have fr2 : fr_g JX h0 h2 := fr_trans hfr (fr_wk rfl fq2)
  have t2_0 : gn h2 77 6 = gn h 77 6 := fr_gn fq2 rfl
  have t2_5 : gn h2 84 24 = gn h 84 24 := fr_gn fq2 rfl
  have t2_6 : gn h2 84 27 = gn h 84 27 := fr_gn fq2 rfl
  have t2_7 : gn h2 84 28 = gn h 84 28 := fr_gn fq2 rfl
  have t2_8 : gn h2 84 29 = gn h 84 29 := fr_gn fq2 rfl
  show Ends _ _ (110, lv, [.int (nJ v2)], h2, 0, 0) _
  refine E_is rfl (fun lv3 L3_3 kp3 => ?_)
  have L3_0 := kp3 0 _ (nbz rfl) rfl L0
  have L3_1 := kp3 1 _ (nbz rfl) rfl L1
  have L3_2 := kp3 2 _ (nbz rfl) rfl L2
  refine E_al rfl L3_0 ?_
  have b4 : gn h2 77 12 ≤ 3 := gn_hi hh2 rfl (by decide)
  refine E_gf rfl hh2 rfl (gi_gn hh2 rfl (by decide)) ?_
  by_cases hb5 : (gn h2 77 12) = 0
  · refine E_ifT rfl (decide_eq_true ((nJ_eq0 (by omega)).mpr hb5)) ?_
    obtain ⟨c1, c2, c3⟩ := vc2 hb5
    have hne := hcond c1 c2 v2 va2 (by omega) c3
    have WF := JN_wf hh0 hJ
    have rA := rc_mg WF ha1 (by omega) va2 (by omega) hne
    have rB := rc_pos (WFb_mg WF ha1 (by omega) va2 (show v2 ≤ 9 by omega))
    have rC := hJ.2.2
    have hj7 : gn h0 84 28 ≤ 7 := by omega
    have w86 : ∀ k, gn h2 86 k = gn h0 86 k := fun k => by rw [fr_gn fq2 (rg_no rfl _)]; exact e86 k
    have hkk : kk = 64 + 2 * gn h0 84 28 := by omega
    refine E_al rfl L3_0 ?_
    refine E_gr rfl hh2 (q := 86) rfl ?_
    refine E_il rfl L3_1 ?_
    refine E_il rfl L3_2 ?_
    refine E_ias rfl hh2 rfl (by omega) (by decide) ?_
    have hh6 : HH (pt h2 86 kk (nJ a)) := HH_ptn hh2 (bd_u rfl (by omega)) (by omega) (by omega) (by omega)
    have fr6 : fr_g JX h0 (pt h2 86 kk (nJ a)) := fr_ptr (l := 64) (u := 79) rfl (by omega) (by omega) fr2
    have t6_0 : gn (pt h2 86 kk (nJ a)) 77 6 = gn h2 77 6 := gn_ne (by first | exact gxx rfl | omega)
    have t6_1 : gn (pt h2 86 kk (nJ a)) 77 7 = gn h2 77 7 := gn_ne (by first | exact gxx rfl | omega)
    have t6_2 : gn (pt h2 86 kk (nJ a)) 77 8 = gn h2 77 8 := gn_ne (by first | exact gxx rfl | omega)
    have t6_3 : gn (pt h2 86 kk (nJ a)) 77 9 = gn h2 77 9 := gn_ne (by first | exact gxx rfl | omega)
    have t6_4 : gn (pt h2 86 kk (nJ a)) 77 12 = gn h2 77 12 := gn_ne (by first | exact gxx rfl | omega)
    have t6_5 : gn (pt h2 86 kk (nJ a)) 84 24 = gn h2 84 24 := gn_ne (by first | exact gxx rfl | omega)
    have t6_6 : gn (pt h2 86 kk (nJ a)) 84 27 = gn h2 84 27 := gn_ne (by first | exact gxx rfl | omega)
    have t6_7 : gn (pt h2 86 kk (nJ a)) 84 28 = gn h2 84 28 := gn_ne (by first | exact gxx rfl | omega)
    have t6_8 : gn (pt h2 86 kk (nJ a)) 84 29 = gn h2 84 29 := gn_ne (by first | exact gxx rfl | omega)
    generalize hz6 : (pt h2 86 kk (nJ a)) = g6 at hh6 fr6 t6_0 t6_1 t6_2 t6_3 t6_4 t6_5 t6_6 t6_7 t6_8 ⊢
    refine E_al rfl L3_0 ?_
    refine E_gr rfl hh6 (q := 86) rfl ?_
    refine E_il rfl L3_1 ?_
    refine E_ci 1 rfl ci1 ?_
    refine E_bin rfl (nJ_add _ _) ?_
    refine E_il rfl L3_3 ?_
    refine E_ias rfl hh6 rfl (by omega) (by decide) ?_
    have hh7 : HH (pt g6 86 ((kk + 1)) (nJ v2)) := HH_ptn hh6 (bd_u rfl (by omega)) (by omega) (by omega) (by omega)
    have fr7 : fr_g JX h0 (pt g6 86 ((kk + 1)) (nJ v2)) := fr_ptr (l := 64) (u := 79) rfl (by omega) (by omega) fr6
    have t7_0 : gn (pt g6 86 ((kk + 1)) (nJ v2)) 77 6 = gn g6 77 6 := gn_ne (by first | exact gxx rfl | omega)
    have t7_1 : gn (pt g6 86 ((kk + 1)) (nJ v2)) 77 7 = gn g6 77 7 := gn_ne (by first | exact gxx rfl | omega)
    have t7_2 : gn (pt g6 86 ((kk + 1)) (nJ v2)) 77 8 = gn g6 77 8 := gn_ne (by first | exact gxx rfl | omega)
    have t7_3 : gn (pt g6 86 ((kk + 1)) (nJ v2)) 77 9 = gn g6 77 9 := gn_ne (by first | exact gxx rfl | omega)
    have t7_4 : gn (pt g6 86 ((kk + 1)) (nJ v2)) 77 12 = gn g6 77 12 := gn_ne (by first | exact gxx rfl | omega)
    have t7_5 : gn (pt g6 86 ((kk + 1)) (nJ v2)) 84 24 = gn g6 84 24 := gn_ne (by first | exact gxx rfl | omega)
    have t7_6 : gn (pt g6 86 ((kk + 1)) (nJ v2)) 84 27 = gn g6 84 27 := gn_ne (by first | exact gxx rfl | omega)
    have t7_7 : gn (pt g6 86 ((kk + 1)) (nJ v2)) 84 28 = gn g6 84 28 := gn_ne (by first | exact gxx rfl | omega)
    have t7_8 : gn (pt g6 86 ((kk + 1)) (nJ v2)) 84 29 = gn g6 84 29 := gn_ne (by first | exact gxx rfl | omega)
    generalize hz7 : (pt g6 86 ((kk + 1)) (nJ v2)) = g7 at hh7 fr7 t7_0 t7_1 t7_2 t7_3 t7_4 t7_5 t7_6 t7_7 t7_8 ⊢
    refine E_al rfl L3_0 ?_
    refine E_ci 4 rfl ci4 ?_
    refine E_al rfl L3_0 ?_
    refine E_ci 4 rfl ci4 ?_
    refine E_call rfl (Sp_le (by first | exact Nat.add_le_add_left (Nat.le_of_ble_eq_true rfl) _ | exact Nat.le_of_ble_eq_true rfl | omega) (sp_hasRead (d := 0) hh7 (by omega) rfl (by decide))) (chk77 hh7 rfl rfl (by show 2 ≤ 8; decide)) (fun h8 r8 => ?_)
    rintro ⟨e8, f8⟩
    rw [e8, f8]
    have b8 : gn g7 84 28 ≤ 8 := gn_hi hh7 rfl (by decide)
    show Ends _ _ (142, lv3, [.int (nJ (gn g7 84 28)), .int (nJ 4), .ref 77], g7, 0, 0) _
    refine E_ci 1 rfl ci1 ?_
    refine E_bin rfl (nJ_add _ _) ?_
    refine E_call rfl (Sp_le (by first | exact Nat.add_le_add_left (Nat.le_of_ble_eq_true rfl) _ | exact Nat.le_of_ble_eq_true rfl | omega) (sp_tells (d := 0) hh7 (by omega))) (chk77 hh7 rfl rfl (by show 0 ≤ 8; decide)) (fun h9 r9 => ?_)
    rintro ⟨e9, f9⟩
    have hh9 : HH (pt g7 84 28 (nJ (((gn g7 84 28) + 1)))) := HH_ptn hh7 rfl (by omega) (by omega) (by omega)
    have fr9 : fr_g JX h0 (pt g7 84 28 (nJ (((gn g7 84 28) + 1)))) := fr_ptr (l := 28) (u := 28) rfl (by omega) (by omega) fr7
    have t9_0 : gn (pt g7 84 28 (nJ (((gn g7 84 28) + 1)))) 77 6 = gn g7 77 6 := gn_ne (by first | exact gxx rfl | omega)
    have t9_1 : gn (pt g7 84 28 (nJ (((gn g7 84 28) + 1)))) 77 7 = gn g7 77 7 := gn_ne (by first | exact gxx rfl | omega)
    have t9_2 : gn (pt g7 84 28 (nJ (((gn g7 84 28) + 1)))) 77 8 = gn g7 77 8 := gn_ne (by first | exact gxx rfl | omega)
    have t9_3 : gn (pt g7 84 28 (nJ (((gn g7 84 28) + 1)))) 77 9 = gn g7 77 9 := gn_ne (by first | exact gxx rfl | omega)
    have t9_4 : gn (pt g7 84 28 (nJ (((gn g7 84 28) + 1)))) 77 12 = gn g7 77 12 := gn_ne (by first | exact gxx rfl | omega)
    have t9_5 : gn (pt g7 84 28 (nJ (((gn g7 84 28) + 1)))) 84 24 = gn g7 84 24 := gn_ne (by first | exact gxx rfl | omega)
    have t9_6 : gn (pt g7 84 28 (nJ (((gn g7 84 28) + 1)))) 84 27 = gn g7 84 27 := gn_ne (by first | exact gxx rfl | omega)
    have t9_7 : gn (pt g7 84 28 (nJ (((gn g7 84 28) + 1)))) 84 28 = ((gn g7 84 28) + 1) := gn_ptn hh7 rfl (by omega) (by omega) (by omega)
    have t9_8 : gn (pt g7 84 28 (nJ (((gn g7 84 28) + 1)))) 84 29 = gn g7 84 29 := gn_ne (by first | exact gxx rfl | omega)
    have u9 : ∀ k, gn (pt g7 84 28 (nJ (((gn g7 84 28) + 1)))) 85 k = gn g7 85 k := fun k => gn_ne (by first | exact gxx rfl | omega)
    have y9 : ∀ k, gn (pt g7 84 28 (nJ (((gn g7 84 28) + 1)))) 86 k = gn g7 86 k := fun k => gn_ne (by first | exact gxx rfl | omega)
    rw [e9, f9]
    show Ends _ _ (147, lv3, [], (pt g7 84 28 (nJ (((gn g7 84 28) + 1)))), 0, 0) _
    generalize hz9 : (pt g7 84 28 (nJ (((gn g7 84 28) + 1)))) = g9 at hh9 fr9 t9_0 t9_1 t9_2 t9_3 t9_4 t9_5 t9_6 t9_7 t9_8 u9 y9 ⊢
    have eO : ∀ k, k ≠ kk → k ≠ kk + 1 → gn g9 86 k = gn h0 86 k := fun k k1 k2 => by rw [y9, ← hz7, gn_ne (fun _ => k2), ← hz6, gn_ne (fun _ => k1)]; exact w86 k
    have eA : gn g9 86 kk = a := by rw [y9, ← hz7, gn_ne (by first | exact gxx rfl | omega), ← hz6, gn_ptn hh2 (bd_u rfl (by omega)) (by omega) (by omega) (by omega)]
    have eB : gn g9 86 (kk + 1) = v2 := by rw [y9, ← hz7, gn_ptn hh6 (bd_u rfl (by omega)) (by omega) (by omega) (by omega)]
    have e28 : gn g9 84 28 = gn h0 84 28 + 1 := by omega
    refine E_ret rfl ⟨rfl, ⟨hh9, by omega, by omega, by omega⟩, fr9, by omega, ⟨by omega, fun i hi => ?_, ?_⟩⟩
    · rw [e28] at hi
      by_cases e : i = gn h0 84 28
      · rw [e, ← hkk, eA, eB]; exact ⟨ha1, by omega⟩
      · rw [eO _ (by omega) (by omega), eO _ (by omega) (by omega)]; exact hJ.2.1 i (by omega)
    · rw [e28]
      show rc (mg (bk (gn g9 86) (gn h0 84 28)) (gn g9 86 (64 + 2 * gn h0 84 28)) (gn g9 86 (64 + 2 * gn h0 84 28 + 1))) + (gn h0 84 28 + 1) = 9
      rw [bk_eq (e := gn h0 86) (fun i hi => eO i (by omega) (by omega)), ← hkk, eA, eB]
      omega
  · refine E_ifF rfl (decide_eq_false (fun q => hb5 ((nJ_eq0 (by omega)).mp q))) ?_
    refine E_ret rfl ⟨rfl, ⟨hh2, by omega, by omega, by omega⟩, fr2, by omega, ?_⟩
    have w86 : gn h2 86 = gn h0 86 := funext (fun k => by rw [fr_gn fq2 (rg_no rfl _)]; exact e86 k)
    have w28 : gn h2 84 28 = gn h0 84 28 := by omega
    unfold JN
    rw [w86, w28]
    exact hJ
end
