section
theorem fo_num {h0 : pm_H} {d : Nat} (j : Nat) : ∀ {h : pm_H} (lv : List (Nat × Value)), HH h → fr_g FM h0 h → gn h 77 7 + j = gn h 77 6 → gn h 77 9 ≤ gn h 77 7 → gn h0 77 7 ≤ gn h 77 9 → (gn h 77 9 < gn h 77 7 ∨ PB h (gn h 77 7) (nJ 48) (nJ 57)) → pm_get lv 0 = some (.ref 77) → Ends (pm_at tX9_follows) (pm_Rt pm_P (d + 1)) (208, lv, [], h, 0, 0) (fun h' r => r = none ∧ RR h' ∧ fr_g FM h0 h' ∧ gn h0 77 7 ≤ gn h' 77 9) := by
  induction j with
  | zero =>
    intro h  lv hh hfr hj hb1 hb2 hb3 L0
    have h5 := b500 hh
    refine E_al rfl L0 ?_
    refine E_al rfl L0 ?_
    have b1 : gn h 77 7 ≤ 500 := gn_hi hh rfl (by decide)
    refine E_gf rfl hh rfl (gi_gn hh rfl (by decide)) ?_
    refine E_ci 48 rfl ci48 ?_
    refine E_ci 57 rfl ci57 ?_
    refine E_call rfl (Sp_le (by first | exact Nat.add_le_add_left (Nat.le_of_ble_eq_true rfl) _ | exact Nat.le_of_ble_eq_true rfl | omega) (sp_isByte (d := 0) hh (by omega))) (chk77 hh rfl rfl (by show 0 ≤ 8; decide)) (fun h2 r2 => ?_)
    rintro ⟨e2, f2⟩
    rw [e2]
    rcases f2 with ⟨pb2, f2⟩ | ⟨pb2, f2⟩
    · rw [f2]
      have hx := hb3.resolve_right pb2
      show Ends _ _ (220, lv, [.int (nJ 0)], h, 0, 0) _
      refine E_ifT rfl (by decide) ?_
      exact E_ret rfl ⟨rfl, ⟨hh, by omega, by omega, by omega⟩, hfr, by omega⟩
    · rw [f2]
      have lt2 := pb2.1
      show Ends _ _ (220, lv, [.int (nJ 1)], h, 0, 0) _
      refine E_ifF rfl (by decide) ?_
      refine E_al rfl L0 ?_
      refine E_al rfl L0 ?_
      refine E_gf rfl hh rfl (rfl) ?_
      refine E_ci 100000 rfl ci100000 ?_
      by_cases hb3 : (gi h 77 10) ≤ (nJ 100000)
      · refine E_icT rfl (decide_eq_true hb3) ?_
        refine E_ci 10 rfl ci10 ?_
        refine E_al rfl L0 ?_
        refine E_gf rfl hh rfl (rfl) ?_
        refine E_bin rfl rfl ?_
        refine E_al rfl L0 ?_
        refine E_gr rfl hh (q := 82) rfl ?_
        refine E_al rfl L0 ?_
        have b4 : gn h 77 7 ≤ 500 := gn_hi hh rfl (by decide)
        refine E_gf rfl hh rfl (gi_gn hh rfl (by decide)) ?_
        refine E_bal rfl hh rfl (by omega) (by decide) ?_
        refine E_bin rfl rfl ?_
        refine E_ci 48 rfl ci48 ?_
        refine E_bin rfl rfl ?_
        refine E_pf rfl hh rfl ?_
        have hh5 : HH (pt h 77 10 (((nJ 10 * (gi h 77 10)) + (gi h 82 ((gn h 77 7)))) - nJ 48)) := HH_pt hh rfl (ai_lo _) (ai_hi _)
        have fr5 : fr_g FM h0 (pt h 77 10 (((nJ 10 * (gi h 77 10)) + (gi h 82 ((gn h 77 7)))) - nJ 48)) := fr_ptr (l := 10) (u := 10) rfl (by omega) (by omega) hfr
        have t5_0 : gn (pt h 77 10 (((nJ 10 * (gi h 77 10)) + (gi h 82 ((gn h 77 7)))) - nJ 48)) 77 6 = gn h 77 6 := gn_ne (by first | exact gxx rfl | omega)
        have t5_1 : gn (pt h 77 10 (((nJ 10 * (gi h 77 10)) + (gi h 82 ((gn h 77 7)))) - nJ 48)) 77 7 = gn h 77 7 := gn_ne (by first | exact gxx rfl | omega)
        have t5_2 : gn (pt h 77 10 (((nJ 10 * (gi h 77 10)) + (gi h 82 ((gn h 77 7)))) - nJ 48)) 77 8 = gn h 77 8 := gn_ne (by first | exact gxx rfl | omega)
        have t5_3 : gn (pt h 77 10 (((nJ 10 * (gi h 77 10)) + (gi h 82 ((gn h 77 7)))) - nJ 48)) 77 9 = gn h 77 9 := gn_ne (by first | exact gxx rfl | omega)
        have t5_4 : gn (pt h 77 10 (((nJ 10 * (gi h 77 10)) + (gi h 82 ((gn h 77 7)))) - nJ 48)) 77 12 = gn h 77 12 := gn_ne (by first | exact gxx rfl | omega)
        generalize hz5 : (pt h 77 10 (((nJ 10 * (gi h 77 10)) + (gi h 82 ((gn h 77 7)))) - nJ 48)) = g5 at hh5 fr5 t5_0 t5_1 t5_2 t5_3 t5_4 ⊢
        refine E_al rfl L0 ?_
        refine E_dup rfl rfl ?_
        have b6 : gn g5 77 7 ≤ 500 := gn_hi hh5 rfl (by decide)
        refine E_gf rfl hh5 rfl (gi_gn hh5 rfl (by decide)) ?_
        refine E_ci 1 rfl ci1 ?_
        refine E_bin rfl (nJ_add _ _) ?_
        refine E_pf rfl hh5 rfl ?_
        have hh7 : HH (pt g5 77 7 (nJ (((gn g5 77 7) + 1)))) := HH_ptn hh5 rfl (by omega) (by omega) (by omega)
        have fr7 : fr_g FM h0 (pt g5 77 7 (nJ (((gn g5 77 7) + 1)))) := fr_ptr (l := 7) (u := 7) rfl (by omega) (by omega) fr5
        have t7_0 : gn (pt g5 77 7 (nJ (((gn g5 77 7) + 1)))) 77 6 = gn g5 77 6 := gn_ne (by first | exact gxx rfl | omega)
        have t7_1 : gn (pt g5 77 7 (nJ (((gn g5 77 7) + 1)))) 77 7 = ((gn g5 77 7) + 1) := gn_ptn hh5 rfl (by omega) (by omega) (by omega)
        have t7_2 : gn (pt g5 77 7 (nJ (((gn g5 77 7) + 1)))) 77 8 = gn g5 77 8 := gn_ne (by first | exact gxx rfl | omega)
        have t7_3 : gn (pt g5 77 7 (nJ (((gn g5 77 7) + 1)))) 77 9 = gn g5 77 9 := gn_ne (by first | exact gxx rfl | omega)
        have t7_4 : gn (pt g5 77 7 (nJ (((gn g5 77 7) + 1)))) 77 12 = gn g5 77 12 := gn_ne (by first | exact gxx rfl | omega)
        generalize hz7 : (pt g5 77 7 (nJ (((gn g5 77 7) + 1)))) = g7 at hh7 fr7 t7_0 t7_1 t7_2 t7_3 t7_4 ⊢
        refine E_goto rfl ?_
        exfalso; omega
      · refine E_icF rfl (decide_eq_false hb3) ?_
        refine E_ci 1000000 rfl ci1000000 ?_
        refine E_goto rfl ?_
        refine E_pf rfl hh rfl ?_
        have hh8 : HH (pt h 77 10 (nJ 1000000)) := HH_ptn hh rfl (by omega) (by omega) (by omega)
        have fr8 : fr_g FM h0 (pt h 77 10 (nJ 1000000)) := fr_ptr (l := 10) (u := 10) rfl (by omega) (by omega) hfr
        have t8_0 : gn (pt h 77 10 (nJ 1000000)) 77 6 = gn h 77 6 := gn_ne (by first | exact gxx rfl | omega)
        have t8_1 : gn (pt h 77 10 (nJ 1000000)) 77 7 = gn h 77 7 := gn_ne (by first | exact gxx rfl | omega)
        have t8_2 : gn (pt h 77 10 (nJ 1000000)) 77 8 = gn h 77 8 := gn_ne (by first | exact gxx rfl | omega)
        have t8_3 : gn (pt h 77 10 (nJ 1000000)) 77 9 = gn h 77 9 := gn_ne (by first | exact gxx rfl | omega)
        have t8_4 : gn (pt h 77 10 (nJ 1000000)) 77 12 = gn h 77 12 := gn_ne (by first | exact gxx rfl | omega)
        generalize hz8 : (pt h 77 10 (nJ 1000000)) = g8 at hh8 fr8 t8_0 t8_1 t8_2 t8_3 t8_4 ⊢
        refine E_al rfl L0 ?_
        refine E_dup rfl rfl ?_
        have b9 : gn g8 77 7 ≤ 500 := gn_hi hh8 rfl (by decide)
        refine E_gf rfl hh8 rfl (gi_gn hh8 rfl (by decide)) ?_
        refine E_ci 1 rfl ci1 ?_
        refine E_bin rfl (nJ_add _ _) ?_
        refine E_pf rfl hh8 rfl ?_
        have hh10 : HH (pt g8 77 7 (nJ (((gn g8 77 7) + 1)))) := HH_ptn hh8 rfl (by omega) (by omega) (by omega)
        have fr10 : fr_g FM h0 (pt g8 77 7 (nJ (((gn g8 77 7) + 1)))) := fr_ptr (l := 7) (u := 7) rfl (by omega) (by omega) fr8
        have t10_0 : gn (pt g8 77 7 (nJ (((gn g8 77 7) + 1)))) 77 6 = gn g8 77 6 := gn_ne (by first | exact gxx rfl | omega)
        have t10_1 : gn (pt g8 77 7 (nJ (((gn g8 77 7) + 1)))) 77 7 = ((gn g8 77 7) + 1) := gn_ptn hh8 rfl (by omega) (by omega) (by omega)
        have t10_2 : gn (pt g8 77 7 (nJ (((gn g8 77 7) + 1)))) 77 8 = gn g8 77 8 := gn_ne (by first | exact gxx rfl | omega)
        have t10_3 : gn (pt g8 77 7 (nJ (((gn g8 77 7) + 1)))) 77 9 = gn g8 77 9 := gn_ne (by first | exact gxx rfl | omega)
        have t10_4 : gn (pt g8 77 7 (nJ (((gn g8 77 7) + 1)))) 77 12 = gn g8 77 12 := gn_ne (by first | exact gxx rfl | omega)
        generalize hz10 : (pt g8 77 7 (nJ (((gn g8 77 7) + 1)))) = g10 at hh10 fr10 t10_0 t10_1 t10_2 t10_3 t10_4 ⊢
        refine E_goto rfl ?_
        exfalso; omega
  | succ j ih =>
    intro h  lv hh hfr hj hb1 hb2 hb3 L0
    have h5 := b500 hh
    refine E_al rfl L0 ?_
    refine E_al rfl L0 ?_
    have b1 : gn h 77 7 ≤ 500 := gn_hi hh rfl (by decide)
    refine E_gf rfl hh rfl (gi_gn hh rfl (by decide)) ?_
    refine E_ci 48 rfl ci48 ?_
    refine E_ci 57 rfl ci57 ?_
    refine E_call rfl (Sp_le (by first | exact Nat.add_le_add_left (Nat.le_of_ble_eq_true rfl) _ | exact Nat.le_of_ble_eq_true rfl | omega) (sp_isByte (d := 0) hh (by omega))) (chk77 hh rfl rfl (by show 0 ≤ 8; decide)) (fun h2 r2 => ?_)
    rintro ⟨e2, f2⟩
    rw [e2]
    rcases f2 with ⟨pb2, f2⟩ | ⟨pb2, f2⟩
    · rw [f2]
      have hx := hb3.resolve_right pb2
      show Ends _ _ (220, lv, [.int (nJ 0)], h, 0, 0) _
      refine E_ifT rfl (by decide) ?_
      exact E_ret rfl ⟨rfl, ⟨hh, by omega, by omega, by omega⟩, hfr, by omega⟩
    · rw [f2]
      have lt2 := pb2.1
      show Ends _ _ (220, lv, [.int (nJ 1)], h, 0, 0) _
      refine E_ifF rfl (by decide) ?_
      refine E_al rfl L0 ?_
      refine E_al rfl L0 ?_
      refine E_gf rfl hh rfl (rfl) ?_
      refine E_ci 100000 rfl ci100000 ?_
      by_cases hb3 : (gi h 77 10) ≤ (nJ 100000)
      · refine E_icT rfl (decide_eq_true hb3) ?_
        refine E_ci 10 rfl ci10 ?_
        refine E_al rfl L0 ?_
        refine E_gf rfl hh rfl (rfl) ?_
        refine E_bin rfl rfl ?_
        refine E_al rfl L0 ?_
        refine E_gr rfl hh (q := 82) rfl ?_
        refine E_al rfl L0 ?_
        have b4 : gn h 77 7 ≤ 500 := gn_hi hh rfl (by decide)
        refine E_gf rfl hh rfl (gi_gn hh rfl (by decide)) ?_
        refine E_bal rfl hh rfl (by omega) (by decide) ?_
        refine E_bin rfl rfl ?_
        refine E_ci 48 rfl ci48 ?_
        refine E_bin rfl rfl ?_
        refine E_pf rfl hh rfl ?_
        have hh5 : HH (pt h 77 10 (((nJ 10 * (gi h 77 10)) + (gi h 82 ((gn h 77 7)))) - nJ 48)) := HH_pt hh rfl (ai_lo _) (ai_hi _)
        have fr5 : fr_g FM h0 (pt h 77 10 (((nJ 10 * (gi h 77 10)) + (gi h 82 ((gn h 77 7)))) - nJ 48)) := fr_ptr (l := 10) (u := 10) rfl (by omega) (by omega) hfr
        have t5_0 : gn (pt h 77 10 (((nJ 10 * (gi h 77 10)) + (gi h 82 ((gn h 77 7)))) - nJ 48)) 77 6 = gn h 77 6 := gn_ne (by first | exact gxx rfl | omega)
        have t5_1 : gn (pt h 77 10 (((nJ 10 * (gi h 77 10)) + (gi h 82 ((gn h 77 7)))) - nJ 48)) 77 7 = gn h 77 7 := gn_ne (by first | exact gxx rfl | omega)
        have t5_2 : gn (pt h 77 10 (((nJ 10 * (gi h 77 10)) + (gi h 82 ((gn h 77 7)))) - nJ 48)) 77 8 = gn h 77 8 := gn_ne (by first | exact gxx rfl | omega)
        have t5_3 : gn (pt h 77 10 (((nJ 10 * (gi h 77 10)) + (gi h 82 ((gn h 77 7)))) - nJ 48)) 77 9 = gn h 77 9 := gn_ne (by first | exact gxx rfl | omega)
        have t5_4 : gn (pt h 77 10 (((nJ 10 * (gi h 77 10)) + (gi h 82 ((gn h 77 7)))) - nJ 48)) 77 12 = gn h 77 12 := gn_ne (by first | exact gxx rfl | omega)
        generalize hz5 : (pt h 77 10 (((nJ 10 * (gi h 77 10)) + (gi h 82 ((gn h 77 7)))) - nJ 48)) = g5 at hh5 fr5 t5_0 t5_1 t5_2 t5_3 t5_4 ⊢
        refine E_al rfl L0 ?_
        refine E_dup rfl rfl ?_
        have b6 : gn g5 77 7 ≤ 500 := gn_hi hh5 rfl (by decide)
        refine E_gf rfl hh5 rfl (gi_gn hh5 rfl (by decide)) ?_
        refine E_ci 1 rfl ci1 ?_
        refine E_bin rfl (nJ_add _ _) ?_
        refine E_pf rfl hh5 rfl ?_
        have hh7 : HH (pt g5 77 7 (nJ (((gn g5 77 7) + 1)))) := HH_ptn hh5 rfl (by omega) (by omega) (by omega)
        have fr7 : fr_g FM h0 (pt g5 77 7 (nJ (((gn g5 77 7) + 1)))) := fr_ptr (l := 7) (u := 7) rfl (by omega) (by omega) fr5
        have t7_0 : gn (pt g5 77 7 (nJ (((gn g5 77 7) + 1)))) 77 6 = gn g5 77 6 := gn_ne (by first | exact gxx rfl | omega)
        have t7_1 : gn (pt g5 77 7 (nJ (((gn g5 77 7) + 1)))) 77 7 = ((gn g5 77 7) + 1) := gn_ptn hh5 rfl (by omega) (by omega) (by omega)
        have t7_2 : gn (pt g5 77 7 (nJ (((gn g5 77 7) + 1)))) 77 8 = gn g5 77 8 := gn_ne (by first | exact gxx rfl | omega)
        have t7_3 : gn (pt g5 77 7 (nJ (((gn g5 77 7) + 1)))) 77 9 = gn g5 77 9 := gn_ne (by first | exact gxx rfl | omega)
        have t7_4 : gn (pt g5 77 7 (nJ (((gn g5 77 7) + 1)))) 77 12 = gn g5 77 12 := gn_ne (by first | exact gxx rfl | omega)
        generalize hz7 : (pt g5 77 7 (nJ (((gn g5 77 7) + 1)))) = g7 at hh7 fr7 t7_0 t7_1 t7_2 t7_3 t7_4 ⊢
        refine E_goto rfl ?_
        exact ih lv hh7 fr7 (by omega) (by omega) (by omega) (.inl (by omega)) L0
      · refine E_icF rfl (decide_eq_false hb3) ?_
        refine E_ci 1000000 rfl ci1000000 ?_
        refine E_goto rfl ?_
        refine E_pf rfl hh rfl ?_
        have hh8 : HH (pt h 77 10 (nJ 1000000)) := HH_ptn hh rfl (by omega) (by omega) (by omega)
        have fr8 : fr_g FM h0 (pt h 77 10 (nJ 1000000)) := fr_ptr (l := 10) (u := 10) rfl (by omega) (by omega) hfr
        have t8_0 : gn (pt h 77 10 (nJ 1000000)) 77 6 = gn h 77 6 := gn_ne (by first | exact gxx rfl | omega)
        have t8_1 : gn (pt h 77 10 (nJ 1000000)) 77 7 = gn h 77 7 := gn_ne (by first | exact gxx rfl | omega)
        have t8_2 : gn (pt h 77 10 (nJ 1000000)) 77 8 = gn h 77 8 := gn_ne (by first | exact gxx rfl | omega)
        have t8_3 : gn (pt h 77 10 (nJ 1000000)) 77 9 = gn h 77 9 := gn_ne (by first | exact gxx rfl | omega)
        have t8_4 : gn (pt h 77 10 (nJ 1000000)) 77 12 = gn h 77 12 := gn_ne (by first | exact gxx rfl | omega)
        generalize hz8 : (pt h 77 10 (nJ 1000000)) = g8 at hh8 fr8 t8_0 t8_1 t8_2 t8_3 t8_4 ⊢
        refine E_al rfl L0 ?_
        refine E_dup rfl rfl ?_
        have b9 : gn g8 77 7 ≤ 500 := gn_hi hh8 rfl (by decide)
        refine E_gf rfl hh8 rfl (gi_gn hh8 rfl (by decide)) ?_
        refine E_ci 1 rfl ci1 ?_
        refine E_bin rfl (nJ_add _ _) ?_
        refine E_pf rfl hh8 rfl ?_
        have hh10 : HH (pt g8 77 7 (nJ (((gn g8 77 7) + 1)))) := HH_ptn hh8 rfl (by omega) (by omega) (by omega)
        have fr10 : fr_g FM h0 (pt g8 77 7 (nJ (((gn g8 77 7) + 1)))) := fr_ptr (l := 7) (u := 7) rfl (by omega) (by omega) fr8
        have t10_0 : gn (pt g8 77 7 (nJ (((gn g8 77 7) + 1)))) 77 6 = gn g8 77 6 := gn_ne (by first | exact gxx rfl | omega)
        have t10_1 : gn (pt g8 77 7 (nJ (((gn g8 77 7) + 1)))) 77 7 = ((gn g8 77 7) + 1) := gn_ptn hh8 rfl (by omega) (by omega) (by omega)
        have t10_2 : gn (pt g8 77 7 (nJ (((gn g8 77 7) + 1)))) 77 8 = gn g8 77 8 := gn_ne (by first | exact gxx rfl | omega)
        have t10_3 : gn (pt g8 77 7 (nJ (((gn g8 77 7) + 1)))) 77 9 = gn g8 77 9 := gn_ne (by first | exact gxx rfl | omega)
        have t10_4 : gn (pt g8 77 7 (nJ (((gn g8 77 7) + 1)))) 77 12 = gn g8 77 12 := gn_ne (by first | exact gxx rfl | omega)
        generalize hz10 : (pt g8 77 7 (nJ (((gn g8 77 7) + 1)))) = g10 at hh10 fr10 t10_0 t10_1 t10_2 t10_3 t10_4 ⊢
        refine E_goto rfl ?_
        exact ih lv hh10 fr10 (by omega) (by omega) (by omega) (.inl (by omega)) L0
theorem fo_tail {h0 h : pm_H} {d : Nat} (lv : List (Nat × Value)) (hh : HH h) (hfr : fr_g FM h0 h) (hb1 : gn h 77 7 ≤ gn h 77 6) (hb2 : gn h0 77 7 ≤ gn h 77 7) (L0 : pm_get lv 0 = some (.ref 77)) : Ends (pm_at tX9_follows) (pm_Rt pm_P (d + 1)) (43, lv, [], h, 0, 0) (fun h' r => r = none ∧ RR h' ∧ fr_g FM h0 h' ∧ gn h0 77 7 ≤ gn h' 77 9) := by
  have h5 := b500 hh
  refine E_al rfl L0 ?_
  refine E_al rfl L0 ?_
  have b1 : gn h 77 7 ≤ 500 := gn_hi hh rfl (by decide)
  refine E_gf rfl hh rfl (gi_gn hh rfl (by decide)) ?_
  refine E_pf rfl hh rfl ?_
  have hh2 : HH (pt h 77 9 (nJ ((gn h 77 7)))) := HH_ptn hh rfl (by omega) (by omega) (by omega)
  have fr2 : fr_g FM h0 (pt h 77 9 (nJ ((gn h 77 7)))) := fr_ptr (l := 9) (u := 9) rfl (by omega) (by omega) hfr
  have t2_0 : gn (pt h 77 9 (nJ ((gn h 77 7)))) 77 6 = gn h 77 6 := gn_ne (by first | exact gxx rfl | omega)
  have t2_1 : gn (pt h 77 9 (nJ ((gn h 77 7)))) 77 7 = gn h 77 7 := gn_ne (by first | exact gxx rfl | omega)
  have t2_2 : gn (pt h 77 9 (nJ ((gn h 77 7)))) 77 8 = gn h 77 8 := gn_ne (by first | exact gxx rfl | omega)
  have t2_3 : gn (pt h 77 9 (nJ ((gn h 77 7)))) 77 9 = (gn h 77 7) := gn_ptn hh rfl (by omega) (by omega) (by omega)
  have t2_4 : gn (pt h 77 9 (nJ ((gn h 77 7)))) 77 12 = gn h 77 12 := gn_ne (by first | exact gxx rfl | omega)
  generalize hz2 : (pt h 77 9 (nJ ((gn h 77 7)))) = g2 at hh2 fr2 t2_0 t2_1 t2_2 t2_3 t2_4 ⊢
  refine E_al rfl L0 ?_
  refine E_ci 0 rfl ci0 ?_
  refine E_pf rfl hh2 rfl ?_
  have hh3 : HH (pt g2 77 10 (nJ 0)) := HH_ptn hh2 rfl (by omega) (by omega) (by omega)
  have fr3 : fr_g FM h0 (pt g2 77 10 (nJ 0)) := fr_ptr (l := 10) (u := 10) rfl (by omega) (by omega) fr2
  have t3_0 : gn (pt g2 77 10 (nJ 0)) 77 6 = gn g2 77 6 := gn_ne (by first | exact gxx rfl | omega)
  have t3_1 : gn (pt g2 77 10 (nJ 0)) 77 7 = gn g2 77 7 := gn_ne (by first | exact gxx rfl | omega)
  have t3_2 : gn (pt g2 77 10 (nJ 0)) 77 8 = gn g2 77 8 := gn_ne (by first | exact gxx rfl | omega)
  have t3_3 : gn (pt g2 77 10 (nJ 0)) 77 9 = gn g2 77 9 := gn_ne (by first | exact gxx rfl | omega)
  have t3_4 : gn (pt g2 77 10 (nJ 0)) 77 12 = gn g2 77 12 := gn_ne (by first | exact gxx rfl | omega)
  generalize hz3 : (pt g2 77 10 (nJ 0)) = g3 at hh3 fr3 t3_0 t3_1 t3_2 t3_3 t3_4 ⊢
  refine E_al rfl L0 ?_
  refine E_c rfl ?_
  refine E_pfl rfl hh3 rfl (fun h4 hh4 fl4 => ?_)
  have fr4 : fr_g FM h0 h4 := fr_trans fr3 (fr_wk rfl fl4)
  have t4_0 : gn h4 77 6 = gn g3 77 6 := fr_gn fl4 rfl
  have t4_1 : gn h4 77 7 = gn g3 77 7 := fr_gn fl4 rfl
  have t4_2 : gn h4 77 8 = gn g3 77 8 := fr_gn fl4 rfl
  have t4_3 : gn h4 77 9 = gn g3 77 9 := fr_gn fl4 rfl
  have t4_4 : gn h4 77 12 = gn g3 77 12 := fr_gn fl4 rfl
  refine E_al rfl L0 ?_
  have b5 : gn h4 77 7 ≤ 500 := gn_hi hh4 rfl (by decide)
  refine E_gf rfl hh4 rfl (gi_gn hh4 rfl (by decide)) ?_
  refine E_al rfl L0 ?_
  have b6 : gn h4 77 6 ≤ 500 := gn_hi hh4 rfl (by decide)
  refine E_gf rfl hh4 rfl (gi_gn hh4 rfl (by decide)) ?_
  by_cases hb7 : ¬ (gn h4 77 7) = (gn h4 77 6)
  · refine E_icT rfl (decide_eq_true (fun q => hb7 ((nJ_eq (by omega) (by omega)).mp q))) ?_
    refine E_al rfl L0 ?_
    refine E_al rfl L0 ?_
    have b8 : gn h4 77 7 ≤ 500 := gn_hi hh4 rfl (by decide)
    refine E_gf rfl hh4 rfl (gi_gn hh4 rfl (by decide)) ?_
    refine E_ci 97 rfl ci97 ?_
    refine E_ci 122 rfl ci122 ?_
    refine E_call rfl (Sp_le (by first | exact Nat.add_le_add_left (Nat.le_of_ble_eq_true rfl) _ | exact Nat.le_of_ble_eq_true rfl | omega) (sp_isByte (d := 0) hh4 (by omega))) (chk77 hh4 rfl rfl (by show 0 ≤ 8; decide)) (fun h9 r9 => ?_)
    rintro ⟨e9, f9⟩
    rw [e9]
    rcases f9 with ⟨pb9, f9⟩ | ⟨pb9, f9⟩
    · rw [f9]
      show Ends _ _ (92, lv, [.int (nJ 0)], h4, 0, 0) _
      refine E_ifT rfl (by decide) ?_
      refine E_al rfl L0 ?_
      refine E_al rfl L0 ?_
      have b10 : gn h4 77 7 ≤ 500 := gn_hi hh4 rfl (by decide)
      refine E_gf rfl hh4 rfl (gi_gn hh4 rfl (by decide)) ?_
      refine E_ci 48 rfl ci48 ?_
      refine E_ci 57 rfl ci57 ?_
      refine E_call rfl (Sp_le (by first | exact Nat.add_le_add_left (Nat.le_of_ble_eq_true rfl) _ | exact Nat.le_of_ble_eq_true rfl | omega) (sp_isByte (d := 0) hh4 (by omega))) (chk77 hh4 rfl rfl (by show 0 ≤ 8; decide)) (fun h11 r11 => ?_)
      rintro ⟨e11, f11⟩
      rw [e11]
      rcases f11 with ⟨pb11, f11⟩ | ⟨pb11, f11⟩
      · rw [f11]
        show Ends _ _ (200, lv, [.int (nJ 0)], h4, 0, 0) _
        refine E_ifT rfl (by decide) ?_
        refine E_al rfl L0 ?_
        refine E_al rfl L0 ?_
        refine E_gr rfl hh4 (q := 82) rfl ?_
        refine E_al rfl L0 ?_
        have b12 : gn h4 77 7 ≤ 500 := gn_hi hh4 rfl (by decide)
        refine E_gf rfl hh4 rfl (gi_gn hh4 rfl (by decide)) ?_
        refine E_bal rfl hh4 rfl (by omega) (by decide) ?_
        refine E_ci 59 rfl ci59 ?_
        by_cases hb13 : ¬ (gi h4 82 ((gn h4 77 7))) = (nJ 59)
        · refine E_icT rfl (decide_eq_true hb13) ?_
          refine E_ci 4 rfl ci4 ?_
          refine E_pf rfl hh4 rfl ?_
          have hh14 : HH (pt h4 77 8 (nJ 4)) := HH_ptn hh4 rfl (by omega) (by omega) (by omega)
          have fr14 : fr_g FM h0 (pt h4 77 8 (nJ 4)) := fr_ptr (l := 8) (u := 8) rfl (by omega) (by omega) fr4
          have t14_0 : gn (pt h4 77 8 (nJ 4)) 77 6 = gn h4 77 6 := gn_ne (by first | exact gxx rfl | omega)
          have t14_1 : gn (pt h4 77 8 (nJ 4)) 77 7 = gn h4 77 7 := gn_ne (by first | exact gxx rfl | omega)
          have t14_2 : gn (pt h4 77 8 (nJ 4)) 77 8 = 4 := gn_ptn hh4 rfl (by omega) (by omega) (by omega)
          have t14_3 : gn (pt h4 77 8 (nJ 4)) 77 9 = gn h4 77 9 := gn_ne (by first | exact gxx rfl | omega)
          have t14_4 : gn (pt h4 77 8 (nJ 4)) 77 12 = gn h4 77 12 := gn_ne (by first | exact gxx rfl | omega)
          generalize hz14 : (pt h4 77 8 (nJ 4)) = g14 at hh14 fr14 t14_0 t14_1 t14_2 t14_3 t14_4 ⊢
          refine E_al rfl L0 ?_
          refine E_dup rfl rfl ?_
          have b15 : gn g14 77 7 ≤ 500 := gn_hi hh14 rfl (by decide)
          refine E_gf rfl hh14 rfl (gi_gn hh14 rfl (by decide)) ?_
          refine E_ci 1 rfl ci1 ?_
          refine E_bin rfl (nJ_add _ _) ?_
          refine E_pf rfl hh14 rfl ?_
          have hh16 : HH (pt g14 77 7 (nJ (((gn g14 77 7) + 1)))) := HH_ptn hh14 rfl (by omega) (by omega) (by omega)
          have fr16 : fr_g FM h0 (pt g14 77 7 (nJ (((gn g14 77 7) + 1)))) := fr_ptr (l := 7) (u := 7) rfl (by omega) (by omega) fr14
          have t16_0 : gn (pt g14 77 7 (nJ (((gn g14 77 7) + 1)))) 77 6 = gn g14 77 6 := gn_ne (by first | exact gxx rfl | omega)
          have t16_1 : gn (pt g14 77 7 (nJ (((gn g14 77 7) + 1)))) 77 7 = ((gn g14 77 7) + 1) := gn_ptn hh14 rfl (by omega) (by omega) (by omega)
          have t16_2 : gn (pt g14 77 7 (nJ (((gn g14 77 7) + 1)))) 77 8 = gn g14 77 8 := gn_ne (by first | exact gxx rfl | omega)
          have t16_3 : gn (pt g14 77 7 (nJ (((gn g14 77 7) + 1)))) 77 9 = gn g14 77 9 := gn_ne (by first | exact gxx rfl | omega)
          have t16_4 : gn (pt g14 77 7 (nJ (((gn g14 77 7) + 1)))) 77 12 = gn g14 77 12 := gn_ne (by first | exact gxx rfl | omega)
          generalize hz16 : (pt g14 77 7 (nJ (((gn g14 77 7) + 1)))) = g16 at hh16 fr16 t16_0 t16_1 t16_2 t16_3 t16_4 ⊢
          exact E_ret rfl ⟨rfl, ⟨hh16, by omega, by omega, by omega⟩, fr16, by omega⟩
        · refine E_icF rfl (decide_eq_false hb13) ?_
          refine E_ci 3 rfl ci3 ?_
          refine E_goto rfl ?_
          refine E_pf rfl hh4 rfl ?_
          have hh17 : HH (pt h4 77 8 (nJ 3)) := HH_ptn hh4 rfl (by omega) (by omega) (by omega)
          have fr17 : fr_g FM h0 (pt h4 77 8 (nJ 3)) := fr_ptr (l := 8) (u := 8) rfl (by omega) (by omega) fr4
          have t17_0 : gn (pt h4 77 8 (nJ 3)) 77 6 = gn h4 77 6 := gn_ne (by first | exact gxx rfl | omega)
          have t17_1 : gn (pt h4 77 8 (nJ 3)) 77 7 = gn h4 77 7 := gn_ne (by first | exact gxx rfl | omega)
          have t17_2 : gn (pt h4 77 8 (nJ 3)) 77 8 = 3 := gn_ptn hh4 rfl (by omega) (by omega) (by omega)
          have t17_3 : gn (pt h4 77 8 (nJ 3)) 77 9 = gn h4 77 9 := gn_ne (by first | exact gxx rfl | omega)
          have t17_4 : gn (pt h4 77 8 (nJ 3)) 77 12 = gn h4 77 12 := gn_ne (by first | exact gxx rfl | omega)
          generalize hz17 : (pt h4 77 8 (nJ 3)) = g17 at hh17 fr17 t17_0 t17_1 t17_2 t17_3 t17_4 ⊢
          refine E_al rfl L0 ?_
          refine E_dup rfl rfl ?_
          have b18 : gn g17 77 7 ≤ 500 := gn_hi hh17 rfl (by decide)
          refine E_gf rfl hh17 rfl (gi_gn hh17 rfl (by decide)) ?_
          refine E_ci 1 rfl ci1 ?_
          refine E_bin rfl (nJ_add _ _) ?_
          refine E_pf rfl hh17 rfl ?_
          have hh19 : HH (pt g17 77 7 (nJ (((gn g17 77 7) + 1)))) := HH_ptn hh17 rfl (by omega) (by omega) (by omega)
          have fr19 : fr_g FM h0 (pt g17 77 7 (nJ (((gn g17 77 7) + 1)))) := fr_ptr (l := 7) (u := 7) rfl (by omega) (by omega) fr17
          have t19_0 : gn (pt g17 77 7 (nJ (((gn g17 77 7) + 1)))) 77 6 = gn g17 77 6 := gn_ne (by first | exact gxx rfl | omega)
          have t19_1 : gn (pt g17 77 7 (nJ (((gn g17 77 7) + 1)))) 77 7 = ((gn g17 77 7) + 1) := gn_ptn hh17 rfl (by omega) (by omega) (by omega)
          have t19_2 : gn (pt g17 77 7 (nJ (((gn g17 77 7) + 1)))) 77 8 = gn g17 77 8 := gn_ne (by first | exact gxx rfl | omega)
          have t19_3 : gn (pt g17 77 7 (nJ (((gn g17 77 7) + 1)))) 77 9 = gn g17 77 9 := gn_ne (by first | exact gxx rfl | omega)
          have t19_4 : gn (pt g17 77 7 (nJ (((gn g17 77 7) + 1)))) 77 12 = gn g17 77 12 := gn_ne (by first | exact gxx rfl | omega)
          generalize hz19 : (pt g17 77 7 (nJ (((gn g17 77 7) + 1)))) = g19 at hh19 fr19 t19_0 t19_1 t19_2 t19_3 t19_4 ⊢
          exact E_ret rfl ⟨rfl, ⟨hh19, by omega, by omega, by omega⟩, fr19, by omega⟩
      · rw [f11]
        have lt11 := pb11.1
        show Ends _ _ (200, lv, [.int (nJ 1)], h4, 0, 0) _
        refine E_ifF rfl (by decide) ?_
        refine E_al rfl L0 ?_
        refine E_ci 2 rfl ci2 ?_
        refine E_pf rfl hh4 rfl ?_
        have hh20 : HH (pt h4 77 8 (nJ 2)) := HH_ptn hh4 rfl (by omega) (by omega) (by omega)
        have fr20 : fr_g FM h0 (pt h4 77 8 (nJ 2)) := fr_ptr (l := 8) (u := 8) rfl (by omega) (by omega) fr4
        have t20_0 : gn (pt h4 77 8 (nJ 2)) 77 6 = gn h4 77 6 := gn_ne (by first | exact gxx rfl | omega)
        have t20_1 : gn (pt h4 77 8 (nJ 2)) 77 7 = gn h4 77 7 := gn_ne (by first | exact gxx rfl | omega)
        have t20_2 : gn (pt h4 77 8 (nJ 2)) 77 8 = 2 := gn_ptn hh4 rfl (by omega) (by omega) (by omega)
        have t20_3 : gn (pt h4 77 8 (nJ 2)) 77 9 = gn h4 77 9 := gn_ne (by first | exact gxx rfl | omega)
        have t20_4 : gn (pt h4 77 8 (nJ 2)) 77 12 = gn h4 77 12 := gn_ne (by first | exact gxx rfl | omega)
        generalize hz20 : (pt h4 77 8 (nJ 2)) = g20 at hh20 fr20 t20_0 t20_1 t20_2 t20_3 t20_4 ⊢
        exact fo_num (gn g20 77 6 - gn g20 77 7) lv hh20 fr20 (by omega) (by omega) (by omega) (.inr (PB_eq (by omega) (by omega) (by rw [← hz20]; exact gi_ne (by first | exact gxx rfl | omega)) pb11)) L0
    · rw [f9]
      have lt9 := pb9.1
      show Ends _ _ (92, lv, [.int (nJ 1)], h4, 0, 0) _
      refine E_ifF rfl (by decide) ?_
      refine E_al rfl L0 ?_
      refine E_ci 1 rfl ci1 ?_
      refine E_pf rfl hh4 rfl ?_
      have hh21 : HH (pt h4 77 8 (nJ 1)) := HH_ptn hh4 rfl (by omega) (by omega) (by omega)
      have fr21 : fr_g FM h0 (pt h4 77 8 (nJ 1)) := fr_ptr (l := 8) (u := 8) rfl (by omega) (by omega) fr4
      have t21_0 : gn (pt h4 77 8 (nJ 1)) 77 6 = gn h4 77 6 := gn_ne (by first | exact gxx rfl | omega)
      have t21_1 : gn (pt h4 77 8 (nJ 1)) 77 7 = gn h4 77 7 := gn_ne (by first | exact gxx rfl | omega)
      have t21_2 : gn (pt h4 77 8 (nJ 1)) 77 8 = 1 := gn_ptn hh4 rfl (by omega) (by omega) (by omega)
      have t21_3 : gn (pt h4 77 8 (nJ 1)) 77 9 = gn h4 77 9 := gn_ne (by first | exact gxx rfl | omega)
      have t21_4 : gn (pt h4 77 8 (nJ 1)) 77 12 = gn h4 77 12 := gn_ne (by first | exact gxx rfl | omega)
      generalize hz21 : (pt h4 77 8 (nJ 1)) = g21 at hh21 fr21 t21_0 t21_1 t21_2 t21_3 t21_4 ⊢
      refine E_ci 0 rfl ci0 ?_
      refine E_is rfl (fun lv22 L22_1 kp22 => ?_)
      have L22_0 := kp22 0 _ (nbz rfl) rfl L0
      exact fo_let (gn g21 77 6 - gn g21 77 7) lv22 hh21 fr21 (by omega) (by omega) (by omega) (.inr (PB_eq (by omega) (by omega) (by rw [← hz21]; exact gi_ne (by first | exact gxx rfl | omega)) pb9)) L22_0 L22_1
  · refine E_icF rfl (decide_eq_false (fun q => hb7 (fun z => q ((nJ_eq (by omega) (by omega)).mpr z)))) ?_
    refine E_al rfl L0 ?_
    refine E_ci 0 rfl ci0 ?_
    refine E_pf rfl hh4 rfl ?_
    have hh23 : HH (pt h4 77 8 (nJ 0)) := HH_ptn hh4 rfl (by omega) (by omega) (by omega)
    have fr23 : fr_g FM h0 (pt h4 77 8 (nJ 0)) := fr_ptr (l := 8) (u := 8) rfl (by omega) (by omega) fr4
    have t23_0 : gn (pt h4 77 8 (nJ 0)) 77 6 = gn h4 77 6 := gn_ne (by first | exact gxx rfl | omega)
    have t23_1 : gn (pt h4 77 8 (nJ 0)) 77 7 = gn h4 77 7 := gn_ne (by first | exact gxx rfl | omega)
    have t23_2 : gn (pt h4 77 8 (nJ 0)) 77 8 = 0 := gn_ptn hh4 rfl (by omega) (by omega) (by omega)
    have t23_3 : gn (pt h4 77 8 (nJ 0)) 77 9 = gn h4 77 9 := gn_ne (by first | exact gxx rfl | omega)
    have t23_4 : gn (pt h4 77 8 (nJ 0)) 77 12 = gn h4 77 12 := gn_ne (by first | exact gxx rfl | omega)
    generalize hz23 : (pt h4 77 8 (nJ 0)) = g23 at hh23 fr23 t23_0 t23_1 t23_2 t23_3 t23_4 ⊢
    refine E_goto rfl ?_
    exact E_ret rfl ⟨rfl, ⟨hh23, by omega, by omega, by omega⟩, fr23, by omega⟩
end
