section
theorem fo_num {h0 : pm_H} {d : Nat} (j : Nat) : ∀ {h : pm_H} (lv : List (Nat × Value)), HH h → fr_g FM h0 h → gn h 77 7 + j = gn h 77 6 → gn h 77 9 ≤ gn h 77 7 → gn h0 77 7 ≤ gn h 77 9 → (gn h 77 9 < gn h 77 7 ∨ PB h (gn h 77 7) (nJ 48) (nJ 57)) → pm_get lv 0 = some (.ref 77) → Ends (pm_at tX9_follows) (pm_Rt pm_P (d + 1)) (208, lv, [], h, 0, 0) (fun h' r => r = none ∧ RR h' ∧ fr_g FM h0 h' ∧ gn h0 77 7 ≤ gn h' 77 9) := by
  induction j with
  | zero =>
    intro h  lv hh hfr hj hb1 hb2 hb3 L0
    have h5 := b500 hh
    refine E_al rfl L0 ?_
    refine E_al rfl L0 ?_
    have b1 : gn h 77 7 ≤ 500 := gn_hi hh rfl (by decide)
    refine E_gf rfl hh rfl (gi_gn hh rfl (by decide)) ?_
    refine E_ci 48 rfl (by decide) ?_
    refine E_ci 57 rfl (by decide) ?_
    refine E_call rfl (Sp_le (by omega) (sp_isByte (d := 0) hh (by omega))) (chk77 hh rfl rfl (by show 0 ≤ 8; decide)) (fun h2 r2 => ?_)
    rintro ⟨e2, f2⟩
    rw [e2]
    rcases f2 with ⟨pb2, f2⟩ | ⟨pb2, f2⟩
    · rw [f2]
      have hx := hb3.resolve_right pb2
      show Ends _ _ (220, lv, [.int (nJ 0)], h, 0, 0) _
      refine E_ifT rfl (by decide) ?_
      exact E_ret rfl ⟨rfl, ⟨hh, by omega, by omega, by omega⟩, hfr, by omega⟩
    · rw [f2]
      have lt2 := pb2.1
      show Ends _ _ (220, lv, [.int (nJ 1)], h, 0, 0) _
      refine E_ifF rfl (by decide) ?_
      refine E_al rfl L0 ?_
      refine E_al rfl L0 ?_
      refine E_gf rfl hh rfl (rfl) ?_
      refine E_ci 100000 rfl (by decide) ?_
      by_cases hb3 : (gi h 77 10) ≤ (nJ 100000)
      · refine E_icT rfl (decide_eq_true hb3) ?_
        refine E_ci 10 rfl (by decide) ?_
        refine E_al rfl L0 ?_
        refine E_gf rfl hh rfl (rfl) ?_
        refine E_bin rfl rfl ?_
        refine E_al rfl L0 ?_
        refine E_gr rfl hh (q := 82) rfl ?_
        refine E_al rfl L0 ?_
        have b4 : gn h 77 7 ≤ 500 := gn_hi hh rfl (by decide)
        refine E_gf rfl hh rfl (gi_gn hh rfl (by decide)) ?_
        refine E_bal rfl hh rfl (by omega) (by decide) ?_
        refine E_bin rfl rfl ?_
        refine E_ci 48 rfl (by decide) ?_
        refine E_bin rfl rfl ?_
        refine E_pf rfl hh rfl ?_
        have hh5 : HH (pt h 77 10 (((nJ 10 * (gi h 77 10)) + (gi h 82 ((gn h 77 7)))) - nJ 48)) := HH_pt hh rfl (ai_lo _) (ai_hi _)
        have fr5 : fr_g FM h0 (pt h 77 10 (((nJ 10 * (gi h 77 10)) + (gi h 82 ((gn h 77 7)))) - nJ 48)) := fr_ptr (l := 10) (u := 10) rfl (by omega) (by omega) hfr
        have t5_0 : gn (pt h 77 10 (((nJ 10 * (gi h 77 10)) + (gi h 82 ((gn h 77 7)))) - nJ 48)) 77 6 = gn h 77 6 := gn_ne (by omega)
        have t5_1 : gn (pt h 77 10 (((nJ 10 * (gi h 77 10)) + (gi h 82 ((gn h 77 7)))) - nJ 48)) 77 7 = gn h 77 7 := gn_ne (by omega)
        have t5_2 : gn (pt h 77 10 (((nJ 10 * (gi h 77 10)) + (gi h 82 ((gn h 77 7)))) - nJ 48)) 77 8 = gn h 77 8 := gn_ne (by omega)
        have t5_3 : gn (pt h 77 10 (((nJ 10 * (gi h 77 10)) + (gi h 82 ((gn h 77 7)))) - nJ 48)) 77 9 = gn h 77 9 := gn_ne (by omega)
        have t5_4 : gn (pt h 77 10 (((nJ 10 * (gi h 77 10)) + (gi h 82 ((gn h 77 7)))) - nJ 48)) 77 12 = gn h 77 12 := gn_ne (by omega)
        generalize hz5 : (pt h 77 10 (((nJ 10 * (gi h 77 10)) + (gi h 82 ((gn h 77 7)))) - nJ 48)) = g5 at hh5 fr5 t5_0 t5_1 t5_2 t5_3 t5_4 ⊢
        refine E_al rfl L0 ?_
        refine E_dup rfl rfl ?_
        have b6 : gn g5 77 7 ≤ 500 := gn_hi hh5 rfl (by decide)
        refine E_gf rfl hh5 rfl (gi_gn hh5 rfl (by decide)) ?_
        refine E_ci 1 rfl (by decide) ?_
        refine E_bin rfl (nJ_add _ _) ?_
        refine E_pf rfl hh5 rfl ?_
        have hh7 : HH (pt g5 77 7 (nJ (((gn g5 77 7) + 1)))) := HH_ptn hh5 rfl (by omega) (by omega) (by omega)
        have fr7 : fr_g FM h0 (pt g5 77 7 (nJ (((gn g5 77 7) + 1)))) := fr_ptr (l := 7) (u := 7) rfl (by omega) (by omega) fr5
        have t7_0 : gn (pt g5 77 7 (nJ (((gn g5 77 7) + 1)))) 77 6 = gn g5 77 6 := gn_ne (by omega)
        have t7_1 : gn (pt g5 77 7 (nJ (((gn g5 77 7) + 1)))) 77 7 = ((gn g5 77 7) + 1) := gn_ptn hh5 rfl (by omega) (by omega) (by omega)
        have t7_2 : gn (pt g5 77 7 (nJ (((gn g5 77 7) + 1)))) 77 8 = gn g5 77 8 := gn_ne (by omega)
        have t7_3 : gn (pt g5 77 7 (nJ (((gn g5 77 7) + 1)))) 77 9 = gn g5 77 9 := gn_ne (by omega)
        have t7_4 : gn (pt g5 77 7 (nJ (((gn g5 77 7) + 1)))) 77 12 = gn g5 77 12 := gn_ne (by omega)
        generalize hz7 : (pt g5 77 7 (nJ (((gn g5 77 7) + 1)))) = g7 at hh7 fr7 t7_0 t7_1 t7_2 t7_3 t7_4 ⊢
        refine E_goto rfl ?_
        exfalso; omega
      · refine E_icF rfl (decide_eq_false hb3) ?_
        refine E_ci 1000000 rfl (by decide) ?_
        refine E_goto rfl ?_
        refine E_pf rfl hh rfl ?_
        have hh8 : HH (pt h 77 10 (nJ 1000000)) := HH_ptn hh rfl (by omega) (by omega) (by omega)
        have fr8 : fr_g FM h0 (pt h 77 10 (nJ 1000000)) := fr_ptr (l := 10) (u := 10) rfl (by omega) (by omega) hfr
        have t8_0 : gn (pt h 77 10 (nJ 1000000)) 77 6 = gn h 77 6 := gn_ne (by omega)
        have t8_1 : gn (pt h 77 10 (nJ 1000000)) 77 7 = gn h 77 7 := gn_ne (by omega)
        have t8_2 : gn (pt h 77 10 (nJ 1000000)) 77 8 = gn h 77 8 := gn_ne (by omega)
        have t8_3 : gn (pt h 77 10 (nJ 1000000)) 77 9 = gn h 77 9 := gn_ne (by omega)
        have t8_4 : gn (pt h 77 10 (nJ 1000000)) 77 12 = gn h 77 12 := gn_ne (by omega)
        generalize hz8 : (pt h 77 10 (nJ 1000000)) = g8 at hh8 fr8 t8_0 t8_1 t8_2 t8_3 t8_4 ⊢
        refine E_al rfl L0 ?_
        refine E_dup rfl rfl ?_
        have b9 : gn g8 77 7 ≤ 500 := gn_hi hh8 rfl (by decide)
        refine E_gf rfl hh8 rfl (gi_gn hh8 rfl (by decide)) ?_
        refine E_ci 1 rfl (by decide) ?_
        refine E_bin rfl (nJ_add _ _) ?_
        refine E_pf rfl hh8 rfl ?_
        have hh10 : HH (pt g8 77 7 (nJ (((gn g8 77 7) + 1)))) := HH_ptn hh8 rfl (by omega) (by omega) (by omega)
        have fr10 : fr_g FM h0 (pt g8 77 7 (nJ (((gn g8 77 7) + 1)))) := fr_ptr (l := 7) (u := 7) rfl (by omega) (by omega) fr8
        have t10_0 : gn (pt g8 77 7 (nJ (((gn g8 77 7) + 1)))) 77 6 = gn g8 77 6 := gn_ne (by omega)
        have t10_1 : gn (pt g8 77 7 (nJ (((gn g8 77 7) + 1)))) 77 7 = ((gn g8 77 7) + 1) := gn_ptn hh8 rfl (by omega) (by omega) (by omega)
        have t10_2 : gn (pt g8 77 7 (nJ (((gn g8 77 7) + 1)))) 77 8 = gn g8 77 8 := gn_ne (by omega)
        have t10_3 : gn (pt g8 77 7 (nJ (((gn g8 77 7) + 1)))) 77 9 = gn g8 77 9 := gn_ne (by omega)
        have t10_4 : gn (pt g8 77 7 (nJ (((gn g8 77 7) + 1)))) 77 12 = gn g8 77 12 := gn_ne (by omega)
        generalize hz10 : (pt g8 77 7 (nJ (((gn g8 77 7) + 1)))) = g10 at hh10 fr10 t10_0 t10_1 t10_2 t10_3 t10_4 ⊢
        refine E_goto rfl ?_
        exfalso; omega
  | succ j ih =>
    intro h  lv hh hfr hj hb1 hb2 hb3 L0
    have h5 := b500 hh
    refine E_al rfl L0 ?_
    refine E_al rfl L0 ?_
    have b1 : gn h 77 7 ≤ 500 := gn_hi hh rfl (by decide)
    refine E_gf rfl hh rfl (gi_gn hh rfl (by decide)) ?_
    refine E_ci 48 rfl (by decide) ?_
    refine E_ci 57 rfl (by decide) ?_
    refine E_call rfl (Sp_le (by omega) (sp_isByte (d := 0) hh (by omega))) (chk77 hh rfl rfl (by show 0 ≤ 8; decide)) (fun h2 r2 => ?_)
    rintro ⟨e2, f2⟩
    rw [e2]
    rcases f2 with ⟨pb2, f2⟩ | ⟨pb2, f2⟩
    · rw [f2]
      have hx := hb3.resolve_right pb2
      show Ends _ _ (220, lv, [.int (nJ 0)], h, 0, 0) _
      refine E_ifT rfl (by decide) ?_
      exact E_ret rfl ⟨rfl, ⟨hh, by omega, by omega, by omega⟩, hfr, by omega⟩
    · rw [f2]
      have lt2 := pb2.1
      show Ends _ _ (220, lv, [.int (nJ 1)], h, 0, 0) _
      refine E_ifF rfl (by decide) ?_
      refine E_al rfl L0 ?_
      refine E_al rfl L0 ?_
      refine E_gf rfl hh rfl (rfl) ?_
      refine E_ci 100000 rfl (by decide) ?_
      by_cases hb3 : (gi h 77 10) ≤ (nJ 100000)
      · refine E_icT rfl (decide_eq_true hb3) ?_
        refine E_ci 10 rfl (by decide) ?_
        refine E_al rfl L0 ?_
        refine E_gf rfl hh rfl (rfl) ?_
        refine E_bin rfl rfl ?_
        refine E_al rfl L0 ?_
        refine E_gr rfl hh (q := 82) rfl ?_
        refine E_al rfl L0 ?_
        have b4 : gn h 77 7 ≤ 500 := gn_hi hh rfl (by decide)
        refine E_gf rfl hh rfl (gi_gn hh rfl (by decide)) ?_
        refine E_bal rfl hh rfl (by omega) (by decide) ?_
        refine E_bin rfl rfl ?_
        refine E_ci 48 rfl (by decide) ?_
        refine E_bin rfl rfl ?_
        refine E_pf rfl hh rfl ?_
        have hh5 : HH (pt h 77 10 (((nJ 10 * (gi h 77 10)) + (gi h 82 ((gn h 77 7)))) - nJ 48)) := HH_pt hh rfl (ai_lo _) (ai_hi _)
        have fr5 : fr_g FM h0 (pt h 77 10 (((nJ 10 * (gi h 77 10)) + (gi h 82 ((gn h 77 7)))) - nJ 48)) := fr_ptr (l := 10) (u := 10) rfl (by omega) (by omega) hfr
        have t5_0 : gn (pt h 77 10 (((nJ 10 * (gi h 77 10)) + (gi h 82 ((gn h 77 7)))) - nJ 48)) 77 6 = gn h 77 6 := gn_ne (by omega)
        have t5_1 : gn (pt h 77 10 (((nJ 10 * (gi h 77 10)) + (gi h 82 ((gn h 77 7)))) - nJ 48)) 77 7 = gn h 77 7 := gn_ne (by omega)
        have t5_2 : gn (pt h 77 10 (((nJ 10 * (gi h 77 10)) + (gi h 82 ((gn h 77 7)))) - nJ 48)) 77 8 = gn h 77 8 := gn_ne (by omega)
        have t5_3 : gn (pt h 77 10 (((nJ 10 * (gi h 77 10)) + (gi h 82 ((gn h 77 7)))) - nJ 48)) 77 9 = gn h 77 9 := gn_ne (by omega)
        have t5_4 : gn (pt h 77 10 (((nJ 10 * (gi h 77 10)) + (gi h 82 ((gn h 77 7)))) - nJ 48)) 77 12 = gn h 77 12 := gn_ne (by omega)
        generalize hz5 : (pt h 77 10 (((nJ 10 * (gi h 77 10)) + (gi h 82 ((gn h 77 7)))) - nJ 48)) = g5 at hh5 fr5 t5_0 t5_1 t5_2 t5_3 t5_4 ⊢
        refine E_al rfl L0 ?_
        refine E_dup rfl rfl ?_
        have b6 : gn g5 77 7 ≤ 500 := gn_hi hh5 rfl (by decide)
        refine E_gf rfl hh5 rfl (gi_gn hh5 rfl (by decide)) ?_
        refine E_ci 1 rfl (by decide) ?_
        refine E_bin rfl (nJ_add _ _) ?_
        refine E_pf rfl hh5 rfl ?_
        have hh7 : HH (pt g5 77 7 (nJ (((gn g5 77 7) + 1)))) := HH_ptn hh5 rfl (by omega) (by omega) (by omega)
        have fr7 : fr_g FM h0 (pt g5 77 7 (nJ (((gn g5 77 7) + 1)))) := fr_ptr (l := 7) (u := 7) rfl (by omega) (by omega) fr5
        have t7_0 : gn (pt g5 77 7 (nJ (((gn g5 77 7) + 1)))) 77 6 = gn g5 77 6 := gn_ne (by omega)
        have t7_1 : gn (pt g5 77 7 (nJ (((gn g5 77 7) + 1)))) 77 7 = ((gn g5 77 7) + 1) := gn_ptn hh5 rfl (by omega) (by omega) (by omega)
        have t7_2 : gn (pt g5 77 7 (nJ (((gn g5 77 7) + 1)))) 77 8 = gn g5 77 8 := gn_ne (by omega)
        have t7_3 : gn (pt g5 77 7 (nJ (((gn g5 77 7) + 1)))) 77 9 = gn g5 77 9 := gn_ne (by omega)
        have t7_4 : gn (pt g5 77 7 (nJ (((gn g5 77 7) + 1)))) 77 12 = gn g5 77 12 := gn_ne (by omega)
        generalize hz7 : (pt g5 77 7 (nJ (((gn g5 77 7) + 1)))) = g7 at hh7 fr7 t7_0 t7_1 t7_2 t7_3 t7_4 ⊢
        refine E_goto rfl ?_
        exact ih lv hh7 fr7 (by omega) (by omega) (by omega) (.inl (by omega)) L0
      · refine E_icF rfl (decide_eq_false hb3) ?_
        refine E_ci 1000000 rfl (by decide) ?_
        refine E_goto rfl ?_
        refine E_pf rfl hh rfl ?_
        have hh8 : HH (pt h 77 10 (nJ 1000000)) := HH_ptn hh rfl (by omega) (by omega) (by omega)
        have fr8 : fr_g FM h0 (pt h 77 10 (nJ 1000000)) := fr_ptr (l := 10) (u := 10) rfl (by omega) (by omega) hfr
        have t8_0 : gn (pt h 77 10 (nJ 1000000)) 77 6 = gn h 77 6 := gn_ne (by omega)
        have t8_1 : gn (pt h 77 10 (nJ 1000000)) 77 7 = gn h 77 7 := gn_ne (by omega)
        have t8_2 : gn (pt h 77 10 (nJ 1000000)) 77 8 = gn h 77 8 := gn_ne (by omega)
        have t8_3 : gn (pt h 77 10 (nJ 1000000)) 77 9 = gn h 77 9 := gn_ne (by omega)
        have t8_4 : gn (pt h 77 10 (nJ 1000000)) 77 12 = gn h 77 12 := gn_ne (by omega)
        generalize hz8 : (pt h 77 10 (nJ 1000000)) = g8 at hh8 fr8 t8_0 t8_1 t8_2 t8_3 t8_4 ⊢
        refine E_al rfl L0 ?_
        refine E_dup rfl rfl ?_
        have b9 : gn g8 77 7 ≤ 500 := gn_hi hh8 rfl (by decide)
        refine E_gf rfl hh8 rfl (gi_gn hh8 rfl (by decide)) ?_
        refine E_ci 1 rfl (by decide) ?_
        refine E_bin rfl (nJ_add _ _) ?_
        refine E_pf rfl hh8 rfl ?_
        have hh10 : HH (pt g8 77 7 (nJ (((gn g8 77 7) + 1)))) := HH_ptn hh8 rfl (by omega) (by omega) (by omega)
        have fr10 : fr_g FM h0 (pt g8 77 7 (nJ (((gn g8 77 7) + 1)))) := fr_ptr (l := 7) (u := 7) rfl (by omega) (by omega) fr8
        have t10_0 : gn (pt g8 77 7 (nJ (((gn g8 77 7) + 1)))) 77 6 = gn g8 77 6 := gn_ne (by omega)
        have t10_1 : gn (pt g8 77 7 (nJ (((gn g8 77 7) + 1)))) 77 7 = ((gn g8 77 7) + 1) := gn_ptn hh8 rfl (by omega) (by omega) (by omega)
        have t10_2 : gn (pt g8 77 7 (nJ (((gn g8 77 7) + 1)))) 77 8 = gn g8 77 8 := gn_ne (by omega)
        have t10_3 : gn (pt g8 77 7 (nJ (((gn g8 77 7) + 1)))) 77 9 = gn g8 77 9 := gn_ne (by omega)
        have t10_4 : gn (pt g8 77 7 (nJ (((gn g8 77 7) + 1)))) 77 12 = gn g8 77 12 := gn_ne (by omega)
        generalize hz10 : (pt g8 77 7 (nJ (((gn g8 77 7) + 1)))) = g10 at hh10 fr10 t10_0 t10_1 t10_2 t10_3 t10_4 ⊢
        refine E_goto rfl ?_
        exact ih lv hh10 fr10 (by omega) (by omega) (by omega) (.inl (by omega)) L0
end
