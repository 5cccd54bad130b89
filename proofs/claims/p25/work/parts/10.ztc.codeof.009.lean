section
theorem fo_loop {h0 : pm_H} {d : Nat} (j : Nat) : ∀ {h : pm_H} (lv : List (Nat × Value)), HH h → fr_g FM h0 h → gn h 77 7 + j = gn h 77 6 → gn h0 77 7 ≤ gn h 77 7 → pm_get lv 0 = some (.ref 77) → Ends (pm_at tX9_follows) (pm_Rt pm_P (d + 1)) (0, lv, [], h, 0, 0) (fun h' r => r = none ∧ RR h' ∧ fr_g FM h0 h' ∧ gn h0 77 7 ≤ gn h' 77 9) := by
  induction j with
  | zero =>
    intro h lv hh hfr hj hb L0
    have h5 := b500 hh
    refine E_al rfl L0 ?_
    refine E_al rfl L0 ?_
    have b1 : gn h 77 7 ≤ 500 := gn_hi hh rfl (by decide)
    refine E_gf rfl hh rfl (gi_gn hh rfl (by decide)) ?_
    refine E_ci 32 rfl (by decide) ?_
    refine E_ci 32 rfl (by decide) ?_
    refine E_call rfl (Sp_le (by omega) (sp_isByte (d := 0) hh (by omega))) (chk77 hh rfl rfl (by show 0 ≤ 8; decide)) (fun h2 r2 => ?_)
    rintro ⟨e2, f2⟩
    rw [e2]
    rcases f2 with ⟨pb2, f2⟩ | ⟨pb2, f2⟩
    · rw [f2]
      show Ends _ _ (12, lv, [.int (nJ 0)], h, 0, 0) _
      refine E_ifF rfl (by decide) ?_
      refine E_al rfl L0 ?_
      refine E_al rfl L0 ?_
      have b3 : gn h 77 7 ≤ 500 := gn_hi hh rfl (by decide)
      refine E_gf rfl hh rfl (gi_gn hh rfl (by decide)) ?_
      refine E_ci 10 rfl (by decide) ?_
      refine E_ci 10 rfl (by decide) ?_
      refine E_call rfl (Sp_le (by omega) (sp_isByte (d := 0) hh (by omega))) (chk77 hh rfl rfl (by show 0 ≤ 8; decide)) (fun h4 r4 => ?_)
      rintro ⟨e4, f4⟩
      rw [e4]
      rcases f4 with ⟨pb4, f4⟩ | ⟨pb4, f4⟩
      · rw [f4]
        show Ends _ _ (27, lv, [.int (nJ 0)], h, 0, 0) _
        refine E_ifT rfl (by decide) ?_
        exact fo_tail lv hh hfr (by omega) (by omega) L0
      · rw [f4]
        have lt4 := pb4.1
        show Ends _ _ (27, lv, [.int (nJ 1)], h, 0, 0) _
        refine E_ifF rfl (by decide) ?_
        refine E_al rfl L0 ?_
        refine E_dup rfl rfl ?_
        have b5 : gn h 77 7 ≤ 500 := gn_hi hh rfl (by decide)
        refine E_gf rfl hh rfl (gi_gn hh rfl (by decide)) ?_
        refine E_ci 1 rfl (by decide) ?_
        refine E_bin rfl (nJ_add _ _) ?_
        refine E_pf rfl hh rfl ?_
        have hh6 : HH (pt h 77 7 (nJ (((gn h 77 7) + 1)))) := HH_ptn hh rfl (by omega) (by omega) (by omega)
        have fr6 : fr_g FM h0 (pt h 77 7 (nJ (((gn h 77 7) + 1)))) := fr_ptr (l := 7) (u := 7) rfl (by omega) (by omega) hfr
        have t6_0 : gn (pt h 77 7 (nJ (((gn h 77 7) + 1)))) 77 6 = gn h 77 6 := gn_ne (by omega)
        have t6_1 : gn (pt h 77 7 (nJ (((gn h 77 7) + 1)))) 77 7 = ((gn h 77 7) + 1) := gn_ptn hh rfl (by omega) (by omega) (by omega)
        have t6_2 : gn (pt h 77 7 (nJ (((gn h 77 7) + 1)))) 77 8 = gn h 77 8 := gn_ne (by omega)
        have t6_3 : gn (pt h 77 7 (nJ (((gn h 77 7) + 1)))) 77 9 = gn h 77 9 := gn_ne (by omega)
        have t6_4 : gn (pt h 77 7 (nJ (((gn h 77 7) + 1)))) 77 12 = gn h 77 12 := gn_ne (by omega)
        generalize hz6 : (pt h 77 7 (nJ (((gn h 77 7) + 1)))) = g6 at hh6 fr6 t6_0 t6_1 t6_2 t6_3 t6_4 ⊢
        refine E_goto rfl ?_
        exfalso; omega
    · rw [f2]
      have lt2 := pb2.1
      show Ends _ _ (12, lv, [.int (nJ 1)], h, 0, 0) _
      refine E_ifT rfl (by decide) ?_
      refine E_al rfl L0 ?_
      refine E_dup rfl rfl ?_
      have b7 : gn h 77 7 ≤ 500 := gn_hi hh rfl (by decide)
      refine E_gf rfl hh rfl (gi_gn hh rfl (by decide)) ?_
      refine E_ci 1 rfl (by decide) ?_
      refine E_bin rfl (nJ_add _ _) ?_
      refine E_pf rfl hh rfl ?_
      have hh8 : HH (pt h 77 7 (nJ (((gn h 77 7) + 1)))) := HH_ptn hh rfl (by omega) (by omega) (by omega)
      have fr8 : fr_g FM h0 (pt h 77 7 (nJ (((gn h 77 7) + 1)))) := fr_ptr (l := 7) (u := 7) rfl (by omega) (by omega) hfr
      have t8_0 : gn (pt h 77 7 (nJ (((gn h 77 7) + 1)))) 77 6 = gn h 77 6 := gn_ne (by omega)
      have t8_1 : gn (pt h 77 7 (nJ (((gn h 77 7) + 1)))) 77 7 = ((gn h 77 7) + 1) := gn_ptn hh rfl (by omega) (by omega) (by omega)
      have t8_2 : gn (pt h 77 7 (nJ (((gn h 77 7) + 1)))) 77 8 = gn h 77 8 := gn_ne (by omega)
      have t8_3 : gn (pt h 77 7 (nJ (((gn h 77 7) + 1)))) 77 9 = gn h 77 9 := gn_ne (by omega)
      have t8_4 : gn (pt h 77 7 (nJ (((gn h 77 7) + 1)))) 77 12 = gn h 77 12 := gn_ne (by omega)
      generalize hz8 : (pt h 77 7 (nJ (((gn h 77 7) + 1)))) = g8 at hh8 fr8 t8_0 t8_1 t8_2 t8_3 t8_4 ⊢
      refine E_goto rfl ?_
      exfalso; omega
  | succ j ih =>
    intro h lv hh hfr hj hb L0
    have h5 := b500 hh
    refine E_al rfl L0 ?_
    refine E_al rfl L0 ?_
    have b1 : gn h 77 7 ≤ 500 := gn_hi hh rfl (by decide)
    refine E_gf rfl hh rfl (gi_gn hh rfl (by decide)) ?_
    refine E_ci 32 rfl (by decide) ?_
    refine E_ci 32 rfl (by decide) ?_
    refine E_call rfl (Sp_le (by omega) (sp_isByte (d := 0) hh (by omega))) (chk77 hh rfl rfl (by show 0 ≤ 8; decide)) (fun h2 r2 => ?_)
    rintro ⟨e2, f2⟩
    rw [e2]
    rcases f2 with ⟨pb2, f2⟩ | ⟨pb2, f2⟩
    · rw [f2]
      show Ends _ _ (12, lv, [.int (nJ 0)], h, 0, 0) _
      refine E_ifF rfl (by decide) ?_
      refine E_al rfl L0 ?_
      refine E_al rfl L0 ?_
      have b3 : gn h 77 7 ≤ 500 := gn_hi hh rfl (by decide)
      refine E_gf rfl hh rfl (gi_gn hh rfl (by decide)) ?_
      refine E_ci 10 rfl (by decide) ?_
      refine E_ci 10 rfl (by decide) ?_
      refine E_call rfl (Sp_le (by omega) (sp_isByte (d := 0) hh (by omega))) (chk77 hh rfl rfl (by show 0 ≤ 8; decide)) (fun h4 r4 => ?_)
      rintro ⟨e4, f4⟩
      rw [e4]
      rcases f4 with ⟨pb4, f4⟩ | ⟨pb4, f4⟩
      · rw [f4]
        show Ends _ _ (27, lv, [.int (nJ 0)], h, 0, 0) _
        refine E_ifT rfl (by decide) ?_
        exact fo_tail lv hh hfr (by omega) (by omega) L0
      · rw [f4]
        have lt4 := pb4.1
        show Ends _ _ (27, lv, [.int (nJ 1)], h, 0, 0) _
        refine E_ifF rfl (by decide) ?_
        refine E_al rfl L0 ?_
        refine E_dup rfl rfl ?_
        have b5 : gn h 77 7 ≤ 500 := gn_hi hh rfl (by decide)
        refine E_gf rfl hh rfl (gi_gn hh rfl (by decide)) ?_
        refine E_ci 1 rfl (by decide) ?_
        refine E_bin rfl (nJ_add _ _) ?_
        refine E_pf rfl hh rfl ?_
        have hh6 : HH (pt h 77 7 (nJ (((gn h 77 7) + 1)))) := HH_ptn hh rfl (by omega) (by omega) (by omega)
        have fr6 : fr_g FM h0 (pt h 77 7 (nJ (((gn h 77 7) + 1)))) := fr_ptr (l := 7) (u := 7) rfl (by omega) (by omega) hfr
        have t6_0 : gn (pt h 77 7 (nJ (((gn h 77 7) + 1)))) 77 6 = gn h 77 6 := gn_ne (by omega)
        have t6_1 : gn (pt h 77 7 (nJ (((gn h 77 7) + 1)))) 77 7 = ((gn h 77 7) + 1) := gn_ptn hh rfl (by omega) (by omega) (by omega)
        have t6_2 : gn (pt h 77 7 (nJ (((gn h 77 7) + 1)))) 77 8 = gn h 77 8 := gn_ne (by omega)
        have t6_3 : gn (pt h 77 7 (nJ (((gn h 77 7) + 1)))) 77 9 = gn h 77 9 := gn_ne (by omega)
        have t6_4 : gn (pt h 77 7 (nJ (((gn h 77 7) + 1)))) 77 12 = gn h 77 12 := gn_ne (by omega)
        generalize hz6 : (pt h 77 7 (nJ (((gn h 77 7) + 1)))) = g6 at hh6 fr6 t6_0 t6_1 t6_2 t6_3 t6_4 ⊢
        refine E_goto rfl ?_
        exact ih lv hh6 fr6 (by omega) (by omega) L0
    · rw [f2]
      have lt2 := pb2.1
      show Ends _ _ (12, lv, [.int (nJ 1)], h, 0, 0) _
      refine E_ifT rfl (by decide) ?_
      refine E_al rfl L0 ?_
      refine E_dup rfl rfl ?_
      have b7 : gn h 77 7 ≤ 500 := gn_hi hh rfl (by decide)
      refine E_gf rfl hh rfl (gi_gn hh rfl (by decide)) ?_
      refine E_ci 1 rfl (by decide) ?_
      refine E_bin rfl (nJ_add _ _) ?_
      refine E_pf rfl hh rfl ?_
      have hh8 : HH (pt h 77 7 (nJ (((gn h 77 7) + 1)))) := HH_ptn hh rfl (by omega) (by omega) (by omega)
      have fr8 : fr_g FM h0 (pt h 77 7 (nJ (((gn h 77 7) + 1)))) := fr_ptr (l := 7) (u := 7) rfl (by omega) (by omega) hfr
      have t8_0 : gn (pt h 77 7 (nJ (((gn h 77 7) + 1)))) 77 6 = gn h 77 6 := gn_ne (by omega)
      have t8_1 : gn (pt h 77 7 (nJ (((gn h 77 7) + 1)))) 77 7 = ((gn h 77 7) + 1) := gn_ptn hh rfl (by omega) (by omega) (by omega)
      have t8_2 : gn (pt h 77 7 (nJ (((gn h 77 7) + 1)))) 77 8 = gn h 77 8 := gn_ne (by omega)
      have t8_3 : gn (pt h 77 7 (nJ (((gn h 77 7) + 1)))) 77 9 = gn h 77 9 := gn_ne (by omega)
      have t8_4 : gn (pt h 77 7 (nJ (((gn h 77 7) + 1)))) 77 12 = gn h 77 12 := gn_ne (by omega)
      generalize hz8 : (pt h 77 7 (nJ (((gn h 77 7) + 1)))) = g8 at hh8 fr8 t8_0 t8_1 t8_2 t8_3 t8_4 ⊢
      refine E_goto rfl ?_
      exact ih lv hh8 fr8 (by omega) (by omega) L0
theorem sp_follows {h0 : pm_H} {d : Nat} (hh : HH h0) (hs : gn h0 77 7 ≤ gn h0 77 6) : Sp (d + 2) 251 h0 [.ref 77] (fun h' r => r = none ∧ RR h' ∧ fr_g FM h0 h' ∧ gn h0 77 7 ≤ gn h' 77 9) := by
  refine Sp_of aiX9_follows rfl rfl rfl ?_
  exact fo_loop (gn h0 77 6 - gn h0 77 7) (lv_args 0 [.ref 77]) hh (fr_rf _ _) (by omega) (Nat.le_refl _) rfl
noncomputable def FB : List Rng := [(77, 12, 13)]
theorem sp_fails {h0 : pm_H} {d : Nat} {k : Nat} (hh0 : HH h0) (hk1 : 1 ≤ k) (hk3 : k ≤ 3) : Sp (d + 1) 243 h0 [.ref 77, .int (nJ k)] (fun h' r => r = none ∧ HH h' ∧ fr_g FB h0 h' ∧ ¬ gn h' 77 12 = 0) := by
  refine Sp_of aiX9_fails rfl rfl rfl ?_
  have L0 : pm_get (lv_args 0 [.ref 77, .int (nJ k)]) 0 = some (.ref 77) := rfl
  have L1 : pm_get (lv_args 0 [.ref 77, .int (nJ k)]) 1 = some (.int (nJ k)) := rfl
  generalize lv_args 0 [.ref 77, .int (nJ k)] = lv at L0 L1 ⊢
  have h5 := b500 hh0
  refine E_al rfl L0 ?_
  have b1 : gn h0 77 12 ≤ 3 := gn_hi hh0 rfl (by decide)
  refine E_gf rfl hh0 rfl (gi_gn hh0 rfl (by decide)) ?_
  by_cases hb2 : (gn h0 77 12) = 0
  · refine E_ifT rfl (decide_eq_true ((nJ_eq0 (by omega)).mpr hb2)) ?_
    refine E_al rfl L0 ?_
    refine E_il rfl L1 ?_
    refine E_pf rfl hh0 rfl ?_
    have hh3 : HH (pt h0 77 12 (nJ k)) := HH_ptn hh0 rfl (by omega) (by omega) (by omega)
    have fr3 : fr_g FB h0 (pt h0 77 12 (nJ k)) := fr_ptr (l := 12) (u := 12) rfl (by omega) (by omega) (fr_rf FB h0)
    have t3_0 : gn (pt h0 77 12 (nJ k)) 77 6 = gn h0 77 6 := gn_ne (by omega)
    have t3_1 : gn (pt h0 77 12 (nJ k)) 77 7 = gn h0 77 7 := gn_ne (by omega)
    have t3_2 : gn (pt h0 77 12 (nJ k)) 77 8 = gn h0 77 8 := gn_ne (by omega)
    have t3_3 : gn (pt h0 77 12 (nJ k)) 77 9 = gn h0 77 9 := gn_ne (by omega)
    have t3_4 : gn (pt h0 77 12 (nJ k)) 77 12 = k := gn_ptn hh0 rfl (by omega) (by omega) (by omega)
    generalize hz3 : (pt h0 77 12 (nJ k)) = g3 at hh3 fr3 t3_0 t3_1 t3_2 t3_3 t3_4 ⊢
    refine E_al rfl L0 ?_
    refine E_al rfl L0 ?_
    have b4 : gn g3 77 9 ≤ 500 := gn_hi hh3 rfl (by decide)
    refine E_gf rfl hh3 rfl (gi_gn hh3 rfl (by decide)) ?_
    refine E_pf rfl hh3 rfl ?_
    have hh5 : HH (pt g3 77 13 (nJ ((gn g3 77 9)))) := HH_ptn hh3 rfl (by omega) (by omega) (by omega)
    have fr5 : fr_g FB h0 (pt g3 77 13 (nJ ((gn g3 77 9)))) := fr_ptr (l := 13) (u := 13) rfl (by omega) (by omega) fr3
    have t5_0 : gn (pt g3 77 13 (nJ ((gn g3 77 9)))) 77 6 = gn g3 77 6 := gn_ne (by omega)
    have t5_1 : gn (pt g3 77 13 (nJ ((gn g3 77 9)))) 77 7 = gn g3 77 7 := gn_ne (by omega)
    have t5_2 : gn (pt g3 77 13 (nJ ((gn g3 77 9)))) 77 8 = gn g3 77 8 := gn_ne (by omega)
    have t5_3 : gn (pt g3 77 13 (nJ ((gn g3 77 9)))) 77 9 = gn g3 77 9 := gn_ne (by omega)
    have t5_4 : gn (pt g3 77 13 (nJ ((gn g3 77 9)))) 77 12 = gn g3 77 12 := gn_ne (by omega)
    generalize hz5 : (pt g3 77 13 (nJ ((gn g3 77 9)))) = g5 at hh5 fr5 t5_0 t5_1 t5_2 t5_3 t5_4 ⊢
    exact E_ret rfl ⟨rfl, hh5, fr5, by omega⟩
  · refine E_ifF rfl (decide_eq_false (fun q => hb2 ((nJ_eq0 (by omega)).mp q))) ?_
    exact E_ret rfl ⟨rfl, hh0, (fr_rf FB h0), by omega⟩
end
