section
theorem i2l_add1 {n : Nat} (h : n < 2147483647) : ((nJ n).toInt64 + 1).toInt = (n : Int) + 1 := by
  rw [Int64.toInt_add, i2l_nJ (by omega)]
  exact al_bmod (by show -9223372036854775808 ≤ (n : Int) + 1; omega) (by show (n : Int) + 1 ≤ 9223372036854775807; omega)
noncomputable def JX : List Rng := [(77, 7, 13), (86, 64, 79), (84, 28, 28), (101, 0, 9)]
theorem jl_tail {h0 h : pm_H} {d kk a : Nat} (hh0 : HH h0) (hJ : JN h0) (lv : List (Nat × Value)) (hh : HH h) (hr1 : gn h 77 9 ≤ gn h 77 7) (hr2 : gn h 77 7 ≤ gn h 77 6) (hr3 : gn h 77 8 = 0 ∨ gn h 77 9 < gn h 77 7) (hm : gn h0 77 9 ≤ gn h 77 9) (hfr : fr_g JX h0 h) (e84 : gn h 84 24 = gn h0 84 24) (e28 : gn h 84 28 = gn h0 84 28) (e86 : ∀ k, gn h 86 k = gn h0 86 k) (hkk0 : kk = 2 * (32 + min (gn h0 84 28) 7)) (ha1 : 1 ≤ a) (ha2 : a ≤ gn h0 84 24 + 1) (hcond : gn h 77 12 = 0 → gn h 77 8 = 2 → ∀ b, 1 ≤ b → b ≤ gn h0 84 24 + 1 → gi h 77 10 = nJ b → bk (gn h0 86) (gn h0 84 28) a ≠ bk (gn h0 86) (gn h0 84 28) b) (L0 : pm_get lv 0 = some (.ref 77)) (L1 : pm_get lv 1 = some (.int (nJ kk))) (L2 : pm_get lv 2 = some (.int (nJ a))) : Ends (pm_at tX9_joinLine) (pm_Rt pm_P (d + 7)) (98, lv, [], h, 0, 0) (fun h' r => r = none ∧ RR h' ∧ fr_g JX h0 h' ∧ gn h0 77 9 ≤ gn h' 77 9 ∧ JN h') := by
  have h5 := b500 hh
  have hP8 : gn h0 84 24 ≤ 8 := gn_hi hh0 rfl (by decide)
  have hj8 := hJ.1
  refine E_al rfl L0 ?_
  refine E_ci 1 rfl (by decide) ?_
  refine E_al rfl L0 ?_
  refine E_ci 0 rfl (by decide) ?_
  refine E_call rfl (Sp_le (by omega) (sp_hasRead (d := 0) hh (by omega) rfl (by decide))) (chk77 hh rfl rfl (by show 2 ≤ 8; decide)) (fun h1 r1 => ?_)
  rintro ⟨e1, f1⟩
  rw [e1, f1]
  have b1 : gn h 84 24 ≤ 8 := gn_hi hh rfl (by decide)
  show Ends _ _ (105, lv, [.int (nJ (gn h 84 24)), .int (nJ 1), .ref 77], h, 0, 0) _
  refine E_ci 1 rfl (by decide) ?_
  refine E_bin rfl (nJ_add _ _) ?_
  refine E_call rfl (Sp_le (by omega) (sp_number (d := 0) hh (by omega) (by omega) (by omega) (by omega) (by omega))) (chk77 hh rfl rfl (by show 0 ≤ 8; decide)) (fun h2 r2 => ?_)
  rintro ⟨⟨hh2, ra2, rb2, rc2⟩, fq2, mo2, v2, va2, vb2, f2, vc2⟩
  rw [f2]
  have fr2 : fr_g JX h0 h2 := fr_trans hfr (fr_wk rfl fq2)
  have t2_0 : gn h2 77 6 = gn h 77 6 := fr_gn fq2 rfl
  have t2_5 : gn h2 84 24 = gn h 84 24 := fr_gn fq2 rfl
  have t2_6 : gn h2 84 27 = gn h 84 27 := fr_gn fq2 rfl
  have t2_7 : gn h2 84 28 = gn h 84 28 := fr_gn fq2 rfl
  have t2_8 : gn h2 84 29 = gn h 84 29 := fr_gn fq2 rfl
  show Ends _ _ (110, lv, [.int (nJ v2)], h2, 0, 0) _
  refine E_is rfl (fun lv3 L3_3 kp3 => ?_)
  have L3_0 := kp3 0 _ (by decide) rfl L0
  have L3_1 := kp3 1 _ (by decide) rfl L1
  have L3_2 := kp3 2 _ (by decide) rfl L2
  refine E_al rfl L3_0 ?_
  have b4 : gn h2 77 12 ≤ 3 := gn_hi hh2 rfl (by decide)
  refine E_gf rfl hh2 rfl (gi_gn hh2 rfl (by decide)) ?_
  by_cases hb5 : (gn h2 77 12) = 0
  · refine E_ifT rfl (decide_eq_true ((nJ_eq0 (by omega)).mpr hb5)) ?_
    obtain ⟨c1, c2, c3⟩ := vc2 hb5
    have hne := hcond c1 c2 v2 va2 (by omega) c3
    have WF := JN_wf hh0 hJ
    have rA := rc_mg WF ha1 (by omega) va2 (by omega) hne
    have rB := rc_pos (WFb_mg WF ha1 (by omega) va2 (show v2 ≤ 9 by omega))
    have rC := hJ.2.2
    have hj7 : gn h0 84 28 ≤ 7 := by omega
    have w86 : ∀ k, gn h2 86 k = gn h0 86 k := fun k => by rw [fr_gn fq2 (rg_no rfl _)]; exact e86 k
    have hkk : kk = 64 + 2 * gn h0 84 28 := by omega
    refine E_al rfl L3_0 ?_
    refine E_gr rfl hh2 (q := 86) rfl ?_
    refine E_il rfl L3_1 ?_
    refine E_il rfl L3_2 ?_
    refine E_ias rfl hh2 rfl (by omega) (by decide) ?_
    have hh6 : HH (pt h2 86 kk (nJ a)) := HH_ptn hh2 (bd_u rfl (by omega)) (by omega) (by omega) (by omega)
    have fr6 : fr_g JX h0 (pt h2 86 kk (nJ a)) := fr_ptr (l := 64) (u := 79) rfl (by omega) (by omega) fr2
    have t6_0 : gn (pt h2 86 kk (nJ a)) 77 6 = gn h2 77 6 := gn_ne (by omega)
    have t6_1 : gn (pt h2 86 kk (nJ a)) 77 7 = gn h2 77 7 := gn_ne (by omega)
    have t6_2 : gn (pt h2 86 kk (nJ a)) 77 8 = gn h2 77 8 := gn_ne (by omega)
    have t6_3 : gn (pt h2 86 kk (nJ a)) 77 9 = gn h2 77 9 := gn_ne (by omega)
    have t6_4 : gn (pt h2 86 kk (nJ a)) 77 12 = gn h2 77 12 := gn_ne (by omega)
    have t6_5 : gn (pt h2 86 kk (nJ a)) 84 24 = gn h2 84 24 := gn_ne (by omega)
    have t6_6 : gn (pt h2 86 kk (nJ a)) 84 27 = gn h2 84 27 := gn_ne (by omega)
    have t6_7 : gn (pt h2 86 kk (nJ a)) 84 28 = gn h2 84 28 := gn_ne (by omega)
    have t6_8 : gn (pt h2 86 kk (nJ a)) 84 29 = gn h2 84 29 := gn_ne (by omega)
    generalize hz6 : (pt h2 86 kk (nJ a)) = g6 at hh6 fr6 t6_0 t6_1 t6_2 t6_3 t6_4 t6_5 t6_6 t6_7 t6_8 ⊢
    refine E_al rfl L3_0 ?_
    refine E_gr rfl hh6 (q := 86) rfl ?_
    refine E_il rfl L3_1 ?_
    refine E_ci 1 rfl (by decide) ?_
    refine E_bin rfl (nJ_add _ _) ?_
    refine E_il rfl L3_3 ?_
    refine E_ias rfl hh6 rfl (by omega) (by decide) ?_
    have hh7 : HH (pt g6 86 ((kk + 1)) (nJ v2)) := HH_ptn hh6 (bd_u rfl (by omega)) (by omega) (by omega) (by omega)
    have fr7 : fr_g JX h0 (pt g6 86 ((kk + 1)) (nJ v2)) := fr_ptr (l := 64) (u := 79) rfl (by omega) (by omega) fr6
    have t7_0 : gn (pt g6 86 ((kk + 1)) (nJ v2)) 77 6 = gn g6 77 6 := gn_ne (by omega)
    have t7_1 : gn (pt g6 86 ((kk + 1)) (nJ v2)) 77 7 = gn g6 77 7 := gn_ne (by omega)
    have t7_2 : gn (pt g6 86 ((kk + 1)) (nJ v2)) 77 8 = gn g6 77 8 := gn_ne (by omega)
    have t7_3 : gn (pt g6 86 ((kk + 1)) (nJ v2)) 77 9 = gn g6 77 9 := gn_ne (by omega)
    have t7_4 : gn (pt g6 86 ((kk + 1)) (nJ v2)) 77 12 = gn g6 77 12 := gn_ne (by omega)
    have t7_5 : gn (pt g6 86 ((kk + 1)) (nJ v2)) 84 24 = gn g6 84 24 := gn_ne (by omega)
    have t7_6 : gn (pt g6 86 ((kk + 1)) (nJ v2)) 84 27 = gn g6 84 27 := gn_ne (by omega)
    have t7_7 : gn (pt g6 86 ((kk + 1)) (nJ v2)) 84 28 = gn g6 84 28 := gn_ne (by omega)
    have t7_8 : gn (pt g6 86 ((kk + 1)) (nJ v2)) 84 29 = gn g6 84 29 := gn_ne (by omega)
    generalize hz7 : (pt g6 86 ((kk + 1)) (nJ v2)) = g7 at hh7 fr7 t7_0 t7_1 t7_2 t7_3 t7_4 t7_5 t7_6 t7_7 t7_8 ⊢
    refine E_al rfl L3_0 ?_
    refine E_ci 4 rfl (by decide) ?_
    refine E_al rfl L3_0 ?_
    refine E_ci 4 rfl (by decide) ?_
    refine E_call rfl (Sp_le (by omega) (sp_hasRead (d := 0) hh7 (by omega) rfl (by decide))) (chk77 hh7 rfl rfl (by show 2 ≤ 8; decide)) (fun h8 r8 => ?_)
    rintro ⟨e8, f8⟩
    rw [e8, f8]
    have b8 : gn g7 84 28 ≤ 8 := gn_hi hh7 rfl (by decide)
    show Ends _ _ (142, lv3, [.int (nJ (gn g7 84 28)), .int (nJ 4), .ref 77], g7, 0, 0) _
    refine E_ci 1 rfl (by decide) ?_
    refine E_bin rfl (nJ_add _ _) ?_
    refine E_call rfl (Sp_le (by omega) (sp_tells (d := 0) hh7 (by omega))) (chk77 hh7 rfl rfl (by show 0 ≤ 8; decide)) (fun h9 r9 => ?_)
    rintro ⟨e9, f9⟩
    have hh9 : HH (pt g7 84 28 (nJ (((gn g7 84 28) + 1)))) := HH_ptn hh7 rfl (by omega) (by omega) (by omega)
    have fr9 : fr_g JX h0 (pt g7 84 28 (nJ (((gn g7 84 28) + 1)))) := fr_ptr (l := 28) (u := 28) rfl (by omega) (by omega) fr7
    have t9_0 : gn (pt g7 84 28 (nJ (((gn g7 84 28) + 1)))) 77 6 = gn g7 77 6 := gn_ne (by omega)
    have t9_1 : gn (pt g7 84 28 (nJ (((gn g7 84 28) + 1)))) 77 7 = gn g7 77 7 := gn_ne (by omega)
    have t9_2 : gn (pt g7 84 28 (nJ (((gn g7 84 28) + 1)))) 77 8 = gn g7 77 8 := gn_ne (by omega)
    have t9_3 : gn (pt g7 84 28 (nJ (((gn g7 84 28) + 1)))) 77 9 = gn g7 77 9 := gn_ne (by omega)
    have t9_4 : gn (pt g7 84 28 (nJ (((gn g7 84 28) + 1)))) 77 12 = gn g7 77 12 := gn_ne (by omega)
    have t9_5 : gn (pt g7 84 28 (nJ (((gn g7 84 28) + 1)))) 84 24 = gn g7 84 24 := gn_ne (by omega)
    have t9_6 : gn (pt g7 84 28 (nJ (((gn g7 84 28) + 1)))) 84 27 = gn g7 84 27 := gn_ne (by omega)
    have t9_7 : gn (pt g7 84 28 (nJ (((gn g7 84 28) + 1)))) 84 28 = ((gn g7 84 28) + 1) := gn_ptn hh7 rfl (by omega) (by omega) (by omega)
    have t9_8 : gn (pt g7 84 28 (nJ (((gn g7 84 28) + 1)))) 84 29 = gn g7 84 29 := gn_ne (by omega)
    have u9 : ∀ k, gn (pt g7 84 28 (nJ (((gn g7 84 28) + 1)))) 85 k = gn g7 85 k := fun k => gn_ne (by omega)
    have y9 : ∀ k, gn (pt g7 84 28 (nJ (((gn g7 84 28) + 1)))) 86 k = gn g7 86 k := fun k => gn_ne (by omega)
    rw [e9, f9]
    show Ends _ _ (147, lv3, [], (pt g7 84 28 (nJ (((gn g7 84 28) + 1)))), 0, 0) _
    generalize hz9 : (pt g7 84 28 (nJ (((gn g7 84 28) + 1)))) = g9 at hh9 fr9 t9_0 t9_1 t9_2 t9_3 t9_4 t9_5 t9_6 t9_7 t9_8 u9 y9 ⊢
    have eO : ∀ k, k ≠ kk → k ≠ kk + 1 → gn g9 86 k = gn h0 86 k := fun k k1 k2 => by rw [y9, ← hz7, gn_ne (fun _ => k2), ← hz6, gn_ne (fun _ => k1)]; exact w86 k
    have eA : gn g9 86 kk = a := by rw [y9, ← hz7, gn_ne (by omega), ← hz6, gn_ptn hh2 (bd_u rfl (by omega)) (by omega) (by omega) (by omega)]
    have eB : gn g9 86 (kk + 1) = v2 := by rw [y9, ← hz7, gn_ptn hh6 (bd_u rfl (by omega)) (by omega) (by omega) (by omega)]
    have e28 : gn g9 84 28 = gn h0 84 28 + 1 := by omega
    refine E_ret rfl ⟨rfl, ⟨hh9, by omega, by omega, by omega⟩, fr9, by omega, ⟨by omega, fun i hi => ?_, ?_⟩⟩
    · rw [e28] at hi
      by_cases e : i = gn h0 84 28
      · rw [e, ← hkk, eA, eB]; exact ⟨ha1, by omega⟩
      · rw [eO _ (by omega) (by omega), eO _ (by omega) (by omega)]; exact hJ.2.1 i (by omega)
    · rw [e28]
      show rc (mg (bk (gn g9 86) (gn h0 84 28)) (gn g9 86 (64 + 2 * gn h0 84 28)) (gn g9 86 (64 + 2 * gn h0 84 28 + 1))) + (gn h0 84 28 + 1) = 9
      rw [bk_eq (e := gn h0 86) (fun i hi => eO i (by omega) (by omega)), ← hkk, eA, eB]
      omega
  · refine E_ifF rfl (decide_eq_false (fun q => hb5 ((nJ_eq0 (by omega)).mp q))) ?_
    refine E_ret rfl ⟨rfl, ⟨hh2, by omega, by omega, by omega⟩, fr2, by omega, ?_⟩
    have w86 : gn h2 86 = gn h0 86 := funext (fun k => by rw [fr_gn fq2 (rg_no rfl _)]; exact e86 k)
    have w28 : gn h2 84 28 = gn h0 84 28 := by omega
    unfold JN
    rw [w86, w28]
    exact hJ
theorem sp_joinLine {h0 : pm_H} {d : Nat} (hh0 : HH h0) (hr1 : gn h0 77 9 ≤ gn h0 77 7) (hr2 : gn h0 77 7 ≤ gn h0 77 6) (hr3 : gn h0 77 8 = 0 ∨ gn h0 77 9 < gn h0 77 7) (hJ : JN h0) : Sp (d + 8) 282 h0 [.ref 77] (fun h' r => r = none ∧ RR h' ∧ fr_g JX h0 h' ∧ gn h0 77 9 ≤ gn h' 77 9 ∧ JN h') := by
  refine Sp_of aiX9_joinLine rfl rfl rfl ?_
  have L0 : pm_get (lv_args 0 [.ref 77]) 0 = some (.ref 77) := rfl
  generalize lv_args 0 [.ref 77] = lv at L0 ⊢
  have h5 := b500 hh0
  refine E_ci 2 rfl (by decide) ?_
  refine E_ci 32 rfl (by decide) ?_
  refine E_al rfl L0 ?_
  refine E_ci 4 rfl (by decide) ?_
  refine E_call rfl (Sp_le (by omega) (sp_hasRead (d := 0) hh0 (by omega) rfl (by decide))) (chk77 hh0 rfl rfl (by show 2 ≤ 8; decide)) (fun h1 r1 => ?_)
  rintro ⟨e1, f1⟩
  rw [e1, f1]
  have b1 : gn h0 84 28 ≤ 8 := gn_hi hh0 rfl (by decide)
  show Ends _ _ (8, lv, [.int (nJ (gn h0 84 28)), .int (nJ 32), .int (nJ 2)], h0, 0, 0) _
  refine E_ci 7 rfl (by decide) ?_
  refine E_call rfl (Sp_le (by omega) (sp_lessOf (d := 0) (by omega) (by omega))) (chkS rfl (by show 2 ≤ 8; decide)) (fun h2 r2 => ?_)
  rintro ⟨e2, f2⟩
  rw [e2, f2]
  show Ends _ _ (13, lv, [.int (nJ (min ((gn h0 84 28)) 7)), .int (nJ 32), .int (nJ 2)], h0, 0, 0) _
  refine E_bin rfl (nJ_add _ _) ?_
  refine E_bin rfl (nJ_mul _ _) ?_
  refine E_is rfl (fun lv3 L3_1 kp3 => ?_)
  have L3_0 := kp3 0 _ (by decide) rfl L0
  refine E_al rfl L3_0 ?_
  refine E_ci 1 rfl (by decide) ?_
  refine E_al rfl L3_0 ?_
  refine E_ci 0 rfl (by decide) ?_
  refine E_call rfl (Sp_le (by omega) (sp_hasRead (d := 0) hh0 (by omega) rfl (by decide))) (chk77 hh0 rfl rfl (by show 2 ≤ 8; decide)) (fun h4 r4 => ?_)
  rintro ⟨e4, f4⟩
  rw [e4, f4]
  have b4 : gn h0 84 24 ≤ 8 := gn_hi hh0 rfl (by decide)
  show Ends _ _ (23, lv3, [.int (nJ (gn h0 84 24)), .int (nJ 1), .ref 77], h0, 0, 0) _
  refine E_ci 1 rfl (by decide) ?_
  refine E_bin rfl (nJ_add _ _) ?_
  refine E_call rfl (Sp_le (by omega) (sp_number (d := 0) hh0 (by omega) (by omega) (by omega) (by omega) (by omega))) (chk77 hh0 rfl rfl (by show 0 ≤ 8; decide)) (fun h5 r5 => ?_)
  rintro ⟨⟨hh5, ra5, rb5, rc5⟩, fq5, mo5, v5, va5, vb5, f5, vc5⟩
  rw [f5]
  have fr5 : fr_g JX h0 h5 := fr_trans (fr_rf JX h0) (fr_wk rfl fq5)
  have t5_0 : gn h5 77 6 = gn h0 77 6 := fr_gn fq5 rfl
  have t5_5 : gn h5 84 24 = gn h0 84 24 := fr_gn fq5 rfl
  have t5_6 : gn h5 84 27 = gn h0 84 27 := fr_gn fq5 rfl
  have t5_7 : gn h5 84 28 = gn h0 84 28 := fr_gn fq5 rfl
  have t5_8 : gn h5 84 29 = gn h0 84 29 := fr_gn fq5 rfl
  show Ends _ _ (28, lv3, [.int (nJ v5)], h5, 0, 0) _
  refine E_is rfl (fun lv6 L6_2 kp6 => ?_)
  have L6_0 := kp6 0 _ (by decide) rfl L3_0
  have L6_1 := kp6 1 _ (by decide) rfl L3_1
  refine E_al rfl L6_0 ?_
  refine E_ci 4 rfl (by decide) ?_
  refine E_al rfl L6_0 ?_
  refine E_ci 4 rfl (by decide) ?_
  refine E_call rfl (Sp_le (by omega) (sp_hasRead (d := 0) hh5 (by omega) rfl (by decide))) (chk77 hh5 rfl rfl (by show 2 ≤ 8; decide)) (fun h7 r7 => ?_)
  rintro ⟨e7, f7⟩
  rw [e7, f7]
  have b7 : gn h5 84 28 ≤ 8 := gn_hi hh5 rfl (by decide)
  show Ends _ _ (36, lv6, [.int (nJ (gn h5 84 28)), .int (nJ 4), .ref 77], h5, 0, 0) _
  refine E_call rfl (Sp_le (by omega) (sp_laysBlocks4 (d := 0) hh5 (by omega))) (chk77 hh5 rfl rfl (by show 0 ≤ 8; decide)) (fun h8 r8 => ?_)
  rintro ⟨e8, hh8, fq8, cq8⟩
  rw [e8]
  have fr8 : fr_g JX h0 h8 := fr_trans fr5 (fr_wk rfl fq8)
  have t8_0 : gn h8 77 6 = gn h5 77 6 := fr_gn fq8 rfl
  have t8_1 : gn h8 77 7 = gn h5 77 7 := fr_gn fq8 rfl
  have t8_2 : gn h8 77 8 = gn h5 77 8 := fr_gn fq8 rfl
  have t8_3 : gn h8 77 9 = gn h5 77 9 := fr_gn fq8 rfl
  have t8_4 : gn h8 77 12 = gn h5 77 12 := fr_gn fq8 rfl
  have t8_5 : gn h8 84 24 = gn h5 84 24 := fr_gn fq8 rfl
  have t8_6 : gn h8 84 27 = gn h5 84 27 := fr_gn fq8 rfl
  have t8_7 : gn h8 84 28 = gn h5 84 28 := fr_gn fq8 rfl
  have t8_8 : gn h8 84 29 = gn h5 84 29 := fr_gn fq8 rfl
  have z86 : gn h5 86 = gn h0 86 := funext (fun k => fr_gn fq5 (rg_no rfl _))
  have z28 : gn h5 84 28 = gn h0 84 28 := by omega
  rw [z86, z28] at cq8
  have y86 : ∀ k, gn h8 86 k = gn h0 86 k := fun k => by rw [fr_gn fq8 (rg_no rfl _), z86]
  show Ends _ _ (39, lv6, [], h8, 0, 0) _
  refine E_al rfl L6_0 ?_
  have b9 : gn h8 77 12 ≤ 3 := gn_hi hh8 rfl (by decide)
  refine E_gf rfl hh8 rfl (gi_gn hh8 rfl (by decide)) ?_
  by_cases hb10 : ¬ (gn h8 77 12) = 0
  · refine E_ifT rfl (decide_eq_true (fun q => hb10 ((nJ_eq0 (by omega)).mp q))) ?_
    refine jl_tail hh0 hJ lv6 hh8 (by omega) (by omega) (by omega) (by omega) fr8 (by omega) (by omega) y86 rfl (by omega) (by omega) (fun q => absurd q hb10) L6_0 L6_1 L6_2
  · refine E_ifF rfl (decide_eq_false (fun q => hb10 (fun z => q ((nJ_eq0 (by omega)).mpr z)))) ?_
    refine E_al rfl L6_0 ?_
    have b11 : gn h8 77 8 ≤ 4 := gn_hi hh8 rfl (by decide)
    refine E_gf rfl hh8 rfl (gi_gn hh8 rfl (by decide)) ?_
    refine E_ci 2 rfl (by decide) ?_
    by_cases hb12 : ¬ (gn h8 77 8) = 2
    · refine E_icT rfl (decide_eq_true (fun q => hb12 ((nJ_eq (by omega) (by omega)).mp q))) ?_
      refine jl_tail hh0 hJ lv6 hh8 (by omega) (by omega) (by omega) (by omega) fr8 (by omega) (by omega) y86 rfl (by omega) (by omega) (fun _ q => absurd q (by omega)) L6_0 L6_1 L6_2
    · refine E_icF rfl (decide_eq_false (fun q => hb12 (fun z => q ((nJ_eq (by omega) (by omega)).mpr z)))) ?_
      refine E_al rfl L6_0 ?_
      refine E_gf rfl hh8 rfl (rfl) ?_
      refine E_i2l rfl ?_
      refine E_c rfl ?_
      refine E_al rfl L6_0 ?_
      refine E_ci 0 rfl (by decide) ?_
      refine E_call rfl (Sp_le (by omega) (sp_hasRead (d := 0) hh8 (by omega) rfl (by decide))) (chk77 hh8 rfl rfl (by show 4 ≤ 8; decide)) (fun h13 r13 => ?_)
      rintro ⟨e13, f13⟩
      rw [e13, f13]
      have b13 : gn h8 84 24 ≤ 8 := gn_hi hh8 rfl (by decide)
      show Ends _ _ (65, lv6, [.int (nJ (gn h8 84 24)), .long (1), .long ((gi h8 77 10)).toInt64], h8, 0, 0) _
      refine E_i2l rfl ?_
      refine E_c rfl ?_
      refine E_lbin rfl ?_
      refine E_call rfl (sp_in (a := ((gi h8 77 10)).toInt) (b := 1) (c := (((((gn h8 84 24)) : Nat) : Int) + 1)) (i2l_toInt _) rfl (i2l_add1 (by omega))) (chkS rfl (by show 0 ≤ 8; decide)) (fun h14 r14 => ?_)
      rintro ⟨e14, f14⟩
      rw [e14, f14]
      show Ends _ _ (71, lv6, [.int (zb (1 ≤ ((gi h8 77 10)).toInt ∧ ((gi h8 77 10)).toInt ≤ (((((gn h8 84 24)) : Nat) : Int) + 1)))], h8, 0, 0) _
      by_cases hb15 : ¬ (1 ≤ ((gi h8 77 10)).toInt ∧ ((gi h8 77 10)).toInt ≤ (((((gn h8 84 24)) : Nat) : Int) + 1))
      · refine E_ifT rfl (by rw [zb_F hb15]; rfl) ?_
        refine jl_tail hh0 hJ lv6 hh8 (by omega) (by omega) (by omega) (by omega) fr8 (by omega) (by omega) y86 rfl (by omega) (by omega) (fun _ _ b b1 b2 e => absurd ⟨(by rw [e, nJ_toInt (by omega)]; omega), (by rw [e, nJ_toInt (by omega)]; omega)⟩ hb15) L6_0 L6_1 L6_2
      · refine E_ifF rfl (by rw [zb_T (Classical.not_not.mp hb15)]; rfl) ?_
        have hin := Classical.not_not.mp hb15
        obtain ⟨b9, hb9, hbe⟩ := nJ_of2 (n := gn h8 84 24 + 1) (x := gi h8 77 10) (by omega) (by have := hin.2; omega)
        have hb1 : 1 ≤ b9 := by have h9 := hin.1; rw [hbe, nJ_toInt (by omega)] at h9; omega
        refine E_al rfl L6_0 ?_
        refine E_il rfl L6_2 ?_
        refine E_al rfl L6_0 ?_
        refine E_gf rfl hh8 rfl (show gi h8 77 10 = nJ b9 from hbe) ?_
        refine E_al rfl L6_0 ?_
        refine E_ci 0 rfl (by decide) ?_
        refine E_call rfl (Sp_le (by omega) (sp_hasRead (d := 0) hh8 (by omega) rfl (by decide))) (chk77 hh8 rfl rfl (by show 3 ≤ 8; decide)) (fun h16 r16 => ?_)
        rintro ⟨e16, f16⟩
        rw [e16, f16]
        have b16 : gn h8 84 24 ≤ 8 := gn_hi hh8 rfl (by decide)
        show Ends _ _ (85, lv6, [.int (nJ (gn h8 84 24)), .int (nJ b9), .int (nJ v5), .ref 77], h8, 0, 0) _
        refine E_ci 1 rfl (by decide) ?_
        refine E_bin rfl (nJ_add _ _) ?_
        refine E_call rfl (Sp_le (by omega) (sp_mayJoin (d := 0) hh8 (by omega) (by omega) (by omega) (by omega) (by omega) (by omega))) (chk77 hh8 rfl rfl (by show 0 ≤ 8; decide)) (fun h17 r17 => ?_)
        rintro ⟨hh17, fq17, f17⟩
        have fr17 : fr_g JX h0 h17 := fr_trans fr8 (fr_wk rfl fq17)
        have t17_0 : gn h17 77 6 = gn h8 77 6 := fr_gn fq17 rfl
        have t17_1 : gn h17 77 7 = gn h8 77 7 := fr_gn fq17 rfl
        have t17_2 : gn h17 77 8 = gn h8 77 8 := fr_gn fq17 rfl
        have t17_3 : gn h17 77 9 = gn h8 77 9 := fr_gn fq17 rfl
        have t17_4 : gn h17 77 12 = gn h8 77 12 := fr_gn fq17 rfl
        have t17_5 : gn h17 84 24 = gn h8 84 24 := fr_gn fq17 rfl
        have t17_6 : gn h17 84 27 = gn h8 84 27 := fr_gn fq17 rfl
        have t17_7 : gn h17 84 28 = gn h8 84 28 := fr_gn fq17 rfl
        have t17_8 : gn h17 84 29 = gn h8 84 29 := fr_gn fq17 rfl
        have v86 : ∀ k, gn h17 86 k = gn h0 86 k := fun k => by rw [fr_gn fq17 rfl]; exact y86 k
        have v10 : gi h17 77 10 = nJ b9 := by rw [fr_gi fq17 rfl]; exact hbe
        rcases f17 with f17 | ⟨f17, ne17⟩
        · rw [f17]
          show Ends _ _ (90, lv6, [.int (nJ 0)], h17, 0, 0) _
          refine E_ifF rfl (by decide) ?_
          refine E_al rfl L6_0 ?_
          refine E_ci 2 rfl (by decide) ?_
          refine E_call rfl (Sp_le (by omega) (sp_fails (d := 0) (k := 2) hh17 (by omega) (by omega))) (chk77 hh17 rfl rfl (by show 0 ≤ 8; decide)) (fun h18 r18 => ?_)
          rintro ⟨e18, hh18, fq18, mo18⟩
          rw [e18]
          have fr18 : fr_g JX h0 h18 := fr_trans fr17 (fr_wk rfl fq18)
          have t18_0 : gn h18 77 6 = gn h17 77 6 := fr_gn fq18 rfl
          have t18_1 : gn h18 77 7 = gn h17 77 7 := fr_gn fq18 rfl
          have t18_2 : gn h18 77 8 = gn h17 77 8 := fr_gn fq18 rfl
          have t18_3 : gn h18 77 9 = gn h17 77 9 := fr_gn fq18 rfl
          have t18_5 : gn h18 84 24 = gn h17 84 24 := fr_gn fq18 rfl
          have t18_6 : gn h18 84 27 = gn h17 84 27 := fr_gn fq18 rfl
          have t18_7 : gn h18 84 28 = gn h17 84 28 := fr_gn fq18 rfl
          have t18_8 : gn h18 84 29 = gn h17 84 29 := fr_gn fq18 rfl
          show Ends _ _ (98, lv6, [], h18, 0, 0) _
          have x86 : ∀ k, gn h18 86 k = gn h0 86 k := fun k => by rw [fr_gn fq18 (rg_no rfl _)]; exact v86 k
          refine jl_tail hh0 hJ lv6 hh18 (by omega) (by omega) (by omega) (by omega) fr18 (by omega) (by omega) x86 rfl (by omega) (by omega) (fun q => absurd q mo18) L6_0 L6_1 L6_2
        · rw [f17]
          show Ends _ _ (90, lv6, [.int (nJ 1)], h17, 0, 0) _
          refine E_ifT rfl (by decide) ?_
          refine jl_tail hh0 hJ lv6 hh17 (by omega) (by omega) (by omega) (by omega) fr17 (by omega) (by omega) v86 rfl (by omega) (by omega) (fun _ _ b b1 b2 e => ?_) L6_0 L6_1 L6_2
          rw [v10] at e
          have hbb : b9 = b := (nJ_eq (by omega) (by omega)).mp e
          subst hbb
          rw [← cq8 _ (by omega), ← cq8 _ (by omega)]
          exact ne17
end
