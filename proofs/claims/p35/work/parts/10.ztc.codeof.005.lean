section
theorem fo_loop {h0 : pm_H} {d : Nat} (j : Nat) : ∀ {h : pm_H} (lv : List (Nat × Value)), HH h → fr_g FM h0 h → gn h 77 7 + j = gn h 77 6 → gn h0 77 7 ≤ gn h 77 7 → pm_get lv 0 = some (.ref 77) → Ends (pm_at tX9_follows) (pm_Rt pm_P (d + 1)) (0, lv, [], h, 0, 0) (fun h' r => r = none ∧ RR h' ∧ fr_g FM h0 h' ∧ gn h0 77 7 ≤ gn h' 77 9) := by
  induction j with
  | zero =>
    intro h lv hh hfr hj hb L0
    have h5 := b500 hh
    refine E_al rfl L0 ?_
    refine E_al rfl L0 ?_
    have b1 : gn h 77 7 ≤ 500 := gn_hi hh rfl (by decide)
    refine E_gf rfl hh rfl (gi_gn hh rfl (by decide)) ?_
    refine E_ci 32 rfl ci32 ?_
    refine E_ci 32 rfl ci32 ?_
    refine E_call rfl (Sp_le (by first | exact Nat.add_le_add_left (Nat.le_of_ble_eq_true rfl) _ | exact Nat.le_of_ble_eq_true rfl | omega) (sp_isByte (d := 0) hh (by omega))) (chk77 hh rfl rfl (by show 0 ≤ 8; decide)) (fun h2 r2 => ?_)
    rintro ⟨e2, f2⟩
    rw [e2]
    rcases f2 with ⟨pb2, f2⟩ | ⟨pb2, f2⟩
    · rw [f2]
      show Ends _ _ (12, lv, [.int (nJ 0)], h, 0, 0) _
      refine E_ifF rfl (by decide) ?_
      refine E_al rfl L0 ?_
      refine E_al rfl L0 ?_
      have b3 : gn h 77 7 ≤ 500 := gn_hi hh rfl (by decide)
      refine E_gf rfl hh rfl (gi_gn hh rfl (by decide)) ?_
      refine E_ci 10 rfl ci10 ?_
      refine E_ci 10 rfl ci10 ?_
      refine E_call rfl (Sp_le (by first | exact Nat.add_le_add_left (Nat.le_of_ble_eq_true rfl) _ | exact Nat.le_of_ble_eq_true rfl | omega) (sp_isByte (d := 0) hh (by omega))) (chk77 hh rfl rfl (by show 0 ≤ 8; decide)) (fun h4 r4 => ?_)
      rintro ⟨e4, f4⟩
      rw [e4]
      rcases f4 with ⟨pb4, f4⟩ | ⟨pb4, f4⟩
      · rw [f4]
        show Ends _ _ (27, lv, [.int (nJ 0)], h, 0, 0) _
        refine E_ifT rfl (by decide) ?_
        exact fo_tail lv hh hfr (by omega) (by omega) L0
      · rw [f4]
        have lt4 := pb4.1
        show Ends _ _ (27, lv, [.int (nJ 1)], h, 0, 0) _
        refine E_ifF rfl (by decide) ?_
        refine E_al rfl L0 ?_
        refine E_dup rfl rfl ?_
        have b5 : gn h 77 7 ≤ 500 := gn_hi hh rfl (by decide)
        refine E_gf rfl hh rfl (gi_gn hh rfl (by decide)) ?_
        refine E_ci 1 rfl ci1 ?_
        refine E_bin rfl (nJ_add _ _) ?_
        refine E_pf rfl hh rfl ?_
        have hh6 : HH (pt h 77 7 (nJ (((gn h 77 7) + 1)))) := HH_ptn hh rfl (by omega) (by omega) (by omega)
        have fr6 : fr_g FM h0 (pt h 77 7 (nJ (((gn h 77 7) + 1)))) := fr_ptr (l := 7) (u := 7) rfl (by omega) (by omega) hfr
        have t6_0 : gn (pt h 77 7 (nJ (((gn h 77 7) + 1)))) 77 6 = gn h 77 6 := gn_ne (by first | exact gxx rfl | omega)
        have t6_1 : gn (pt h 77 7 (nJ (((gn h 77 7) + 1)))) 77 7 = ((gn h 77 7) + 1) := gn_ptn hh rfl (by omega) (by omega) (by omega)
        have t6_2 : gn (pt h 77 7 (nJ (((gn h 77 7) + 1)))) 77 8 = gn h 77 8 := gn_ne (by first | exact gxx rfl | omega)
        have t6_3 : gn (pt h 77 7 (nJ (((gn h 77 7) + 1)))) 77 9 = gn h 77 9 := gn_ne (by first | exact gxx rfl | omega)
        have t6_4 : gn (pt h 77 7 (nJ (((gn h 77 7) + 1)))) 77 12 = gn h 77 12 := gn_ne (by first | exact gxx rfl | omega)
        generalize hz6 : (pt h 77 7 (nJ (((gn h 77 7) + 1)))) = g6 at hh6 fr6 t6_0 t6_1 t6_2 t6_3 t6_4 ⊢
        refine E_goto rfl ?_
        exfalso; omega
    · rw [f2]
      have lt2 := pb2.1
      show Ends _ _ (12, lv, [.int (nJ 1)], h, 0, 0) _
      refine E_ifT rfl (by decide) ?_
      refine E_al rfl L0 ?_
      refine E_dup rfl rfl ?_
      have b7 : gn h 77 7 ≤ 500 := gn_hi hh rfl (by decide)
      refine E_gf rfl hh rfl (gi_gn hh rfl (by decide)) ?_
      refine E_ci 1 rfl ci1 ?_
      refine E_bin rfl (nJ_add _ _) ?_
      refine E_pf rfl hh rfl ?_
      have hh8 : HH (pt h 77 7 (nJ (((gn h 77 7) + 1)))) := HH_ptn hh rfl (by omega) (by omega) (by omega)
      have fr8 : fr_g FM h0 (pt h 77 7 (nJ (((gn h 77 7) + 1)))) := fr_ptr (l := 7) (u := 7) rfl (by omega) (by omega) hfr
      have t8_0 : gn (pt h 77 7 (nJ (((gn h 77 7) + 1)))) 77 6 = gn h 77 6 := gn_ne (by first | exact gxx rfl | omega)
      have t8_1 : gn (pt h 77 7 (nJ (((gn h 77 7) + 1)))) 77 7 = ((gn h 77 7) + 1) := gn_ptn hh rfl (by omega) (by omega) (by omega)
      have t8_2 : gn (pt h 77 7 (nJ (((gn h 77 7) + 1)))) 77 8 = gn h 77 8 := gn_ne (by first | exact gxx rfl | omega)
      have t8_3 : gn (pt h 77 7 (nJ (((gn h 77 7) + 1)))) 77 9 = gn h 77 9 := gn_ne (by first | exact gxx rfl | omega)
      have t8_4 : gn (pt h 77 7 (nJ (((gn h 77 7) + 1)))) 77 12 = gn h 77 12 := gn_ne (by first | exact gxx rfl | omega)
      generalize hz8 : (pt h 77 7 (nJ (((gn h 77 7) + 1)))) = g8 at hh8 fr8 t8_0 t8_1 t8_2 t8_3 t8_4 ⊢
      refine E_goto rfl ?_
      exfalso; omega
  | succ j ih =>
    intro h lv hh hfr hj hb L0
    have h5 := b500 hh
    refine E_al rfl L0 ?_
    refine E_al rfl L0 ?_
    have b1 : gn h 77 7 ≤ 500 := gn_hi hh rfl (by decide)
    refine E_gf rfl hh rfl (gi_gn hh rfl (by decide)) ?_
    refine E_ci 32 rfl ci32 ?_
    refine E_ci 32 rfl ci32 ?_
    refine E_call rfl (Sp_le (by first | exact Nat.add_le_add_left (Nat.le_of_ble_eq_true rfl) _ | exact Nat.le_of_ble_eq_true rfl | omega) (sp_isByte (d := 0) hh (by omega))) (chk77 hh rfl rfl (by show 0 ≤ 8; decide)) (fun h2 r2 => ?_)
    rintro ⟨e2, f2⟩
    rw [e2]
    rcases f2 with ⟨pb2, f2⟩ | ⟨pb2, f2⟩
    · rw [f2]
      show Ends _ _ (12, lv, [.int (nJ 0)], h, 0, 0) _
      refine E_ifF rfl (by decide) ?_
      refine E_al rfl L0 ?_
      refine E_al rfl L0 ?_
      have b3 : gn h 77 7 ≤ 500 := gn_hi hh rfl (by decide)
      refine E_gf rfl hh rfl (gi_gn hh rfl (by decide)) ?_
      refine E_ci 10 rfl ci10 ?_
      refine E_ci 10 rfl ci10 ?_
      refine E_call rfl (Sp_le (by first | exact Nat.add_le_add_left (Nat.le_of_ble_eq_true rfl) _ | exact Nat.le_of_ble_eq_true rfl | omega) (sp_isByte (d := 0) hh (by omega))) (chk77 hh rfl rfl (by show 0 ≤ 8; decide)) (fun h4 r4 => ?_)
      rintro ⟨e4, f4⟩
      rw [e4]
      rcases f4 with ⟨pb4, f4⟩ | ⟨pb4, f4⟩
      · rw [f4]
        show Ends _ _ (27, lv, [.int (nJ 0)], h, 0, 0) _
        refine E_ifT rfl (by decide) ?_
        exact fo_tail lv hh hfr (by omega) (by omega) L0
      · rw [f4]
        have lt4 := pb4.1
        show Ends _ _ (27, lv, [.int (nJ 1)], h, 0, 0) _
        refine E_ifF rfl (by decide) ?_
        refine E_al rfl L0 ?_
        refine E_dup rfl rfl ?_
        have b5 : gn h 77 7 ≤ 500 := gn_hi hh rfl (by decide)
        refine E_gf rfl hh rfl (gi_gn hh rfl (by decide)) ?_
        refine E_ci 1 rfl ci1 ?_
        refine E_bin rfl (nJ_add _ _) ?_
        refine E_pf rfl hh rfl ?_
        have hh6 : HH (pt h 77 7 (nJ (((gn h 77 7) + 1)))) := HH_ptn hh rfl (by omega) (by omega) (by omega)
        have fr6 : fr_g FM h0 (pt h 77 7 (nJ (((gn h 77 7) + 1)))) := fr_ptr (l := 7) (u := 7) rfl (by omega) (by omega) hfr
        have t6_0 : gn (pt h 77 7 (nJ (((gn h 77 7) + 1)))) 77 6 = gn h 77 6 := gn_ne (by first | exact gxx rfl | omega)
        have t6_1 : gn (pt h 77 7 (nJ (((gn h 77 7) + 1)))) 77 7 = ((gn h 77 7) + 1) := gn_ptn hh rfl (by omega) (by omega) (by omega)
        have t6_2 : gn (pt h 77 7 (nJ (((gn h 77 7) + 1)))) 77 8 = gn h 77 8 := gn_ne (by first | exact gxx rfl | omega)
        have t6_3 : gn (pt h 77 7 (nJ (((gn h 77 7) + 1)))) 77 9 = gn h 77 9 := gn_ne (by first | exact gxx rfl | omega)
        have t6_4 : gn (pt h 77 7 (nJ (((gn h 77 7) + 1)))) 77 12 = gn h 77 12 := gn_ne (by first | exact gxx rfl | omega)
        generalize hz6 : (pt h 77 7 (nJ (((gn h 77 7) + 1)))) = g6 at hh6 fr6 t6_0 t6_1 t6_2 t6_3 t6_4 ⊢
        refine E_goto rfl ?_
        exact ih lv hh6 fr6 (by omega) (by omega) L0
    · rw [f2]
      have lt2 := pb2.1
      show Ends _ _ (12, lv, [.int (nJ 1)], h, 0, 0) _
      refine E_ifT rfl (by decide) ?_
      refine E_al rfl L0 ?_
      refine E_dup rfl rfl ?_
      have b7 : gn h 77 7 ≤ 500 := gn_hi hh rfl (by decide)
      refine E_gf rfl hh rfl (gi_gn hh rfl (by decide)) ?_
      refine E_ci 1 rfl ci1 ?_
      refine E_bin rfl (nJ_add _ _) ?_
      refine E_pf rfl hh rfl ?_
      have hh8 : HH (pt h 77 7 (nJ (((gn h 77 7) + 1)))) := HH_ptn hh rfl (by omega) (by omega) (by omega)
      have fr8 : fr_g FM h0 (pt h 77 7 (nJ (((gn h 77 7) + 1)))) := fr_ptr (l := 7) (u := 7) rfl (by omega) (by omega) hfr
      have t8_0 : gn (pt h 77 7 (nJ (((gn h 77 7) + 1)))) 77 6 = gn h 77 6 := gn_ne (by first | exact gxx rfl | omega)
      have t8_1 : gn (pt h 77 7 (nJ (((gn h 77 7) + 1)))) 77 7 = ((gn h 77 7) + 1) := gn_ptn hh rfl (by omega) (by omega) (by omega)
      have t8_2 : gn (pt h 77 7 (nJ (((gn h 77 7) + 1)))) 77 8 = gn h 77 8 := gn_ne (by first | exact gxx rfl | omega)
      have t8_3 : gn (pt h 77 7 (nJ (((gn h 77 7) + 1)))) 77 9 = gn h 77 9 := gn_ne (by first | exact gxx rfl | omega)
      have t8_4 : gn (pt h 77 7 (nJ (((gn h 77 7) + 1)))) 77 12 = gn h 77 12 := gn_ne (by first | exact gxx rfl | omega)
      generalize hz8 : (pt h 77 7 (nJ (((gn h 77 7) + 1)))) = g8 at hh8 fr8 t8_0 t8_1 t8_2 t8_3 t8_4 ⊢
      refine E_goto rfl ?_
      exact ih lv hh8 fr8 (by omega) (by omega) L0
theorem sp_follows {h0 : pm_H} {d : Nat} (hh : HH h0) (hs : gn h0 77 7 ≤ gn h0 77 6) : Sp (d + 2) 251 h0 [.ref 77] (fun h' r => r = none ∧ RR h' ∧ fr_g FM h0 h' ∧ gn h0 77 7 ≤ gn h' 77 9) := by
  refine Sp_of aiX9_follows rfl rfl rfl ?_
  exact fo_loop (gn h0 77 6 - gn h0 77 7) (lv_args 0 [.ref 77]) hh (fr_rf _ _) (by omega) (Nat.le_refl _) rfl
noncomputable def FB : List Rng := [(77, 12, 13)]
theorem sp_fails {h0 : pm_H} {d : Nat} {k : Nat} (hh0 : HH h0) (hk1 : 1 ≤ k) (hk3 : k ≤ 3) : Sp (d + 1) 243 h0 [.ref 77, .int (nJ k)] (fun h' r => r = none ∧ HH h' ∧ fr_g FB h0 h' ∧ ¬ gn h' 77 12 = 0) := by
  refine Sp_of aiX9_fails rfl rfl rfl ?_
  have L0 : pm_get (lv_args 0 [.ref 77, .int (nJ k)]) 0 = some (.ref 77) := rfl
  have L1 : pm_get (lv_args 0 [.ref 77, .int (nJ k)]) 1 = some (.int (nJ k)) := rfl
  generalize lv_args 0 [.ref 77, .int (nJ k)] = lv at L0 L1 ⊢
  have h5 := b500 hh0
  refine E_al rfl L0 ?_
  have b1 : gn h0 77 12 ≤ 3 := gn_hi hh0 rfl (by decide)
  refine E_gf rfl hh0 rfl (gi_gn hh0 rfl (by decide)) ?_
  by_cases hb2 : (gn h0 77 12) = 0
  · refine E_ifT rfl (decide_eq_true ((nJ_eq0 (by omega)).mpr hb2)) ?_
    refine E_al rfl L0 ?_
    refine E_il rfl L1 ?_
    refine E_pf rfl hh0 rfl ?_
    have hh3 : HH (pt h0 77 12 (nJ k)) := HH_ptn hh0 rfl (by omega) (by omega) (by omega)
    have fr3 : fr_g FB h0 (pt h0 77 12 (nJ k)) := fr_ptr (l := 12) (u := 12) rfl (by omega) (by omega) (fr_rf FB h0)
    have t3_0 : gn (pt h0 77 12 (nJ k)) 77 6 = gn h0 77 6 := gn_ne (by first | exact gxx rfl | omega)
    have t3_1 : gn (pt h0 77 12 (nJ k)) 77 7 = gn h0 77 7 := gn_ne (by first | exact gxx rfl | omega)
    have t3_2 : gn (pt h0 77 12 (nJ k)) 77 8 = gn h0 77 8 := gn_ne (by first | exact gxx rfl | omega)
    have t3_3 : gn (pt h0 77 12 (nJ k)) 77 9 = gn h0 77 9 := gn_ne (by first | exact gxx rfl | omega)
    have t3_4 : gn (pt h0 77 12 (nJ k)) 77 12 = k := gn_ptn hh0 rfl (by omega) (by omega) (by omega)
    generalize hz3 : (pt h0 77 12 (nJ k)) = g3 at hh3 fr3 t3_0 t3_1 t3_2 t3_3 t3_4 ⊢
    refine E_al rfl L0 ?_
    refine E_al rfl L0 ?_
    have b4 : gn g3 77 9 ≤ 500 := gn_hi hh3 rfl (by decide)
    refine E_gf rfl hh3 rfl (gi_gn hh3 rfl (by decide)) ?_
    refine E_pf rfl hh3 rfl ?_
    have hh5 : HH (pt g3 77 13 (nJ ((gn g3 77 9)))) := HH_ptn hh3 rfl (by omega) (by omega) (by omega)
    have fr5 : fr_g FB h0 (pt g3 77 13 (nJ ((gn g3 77 9)))) := fr_ptr (l := 13) (u := 13) rfl (by omega) (by omega) fr3
    have t5_0 : gn (pt g3 77 13 (nJ ((gn g3 77 9)))) 77 6 = gn g3 77 6 := gn_ne (by first | exact gxx rfl | omega)
    have t5_1 : gn (pt g3 77 13 (nJ ((gn g3 77 9)))) 77 7 = gn g3 77 7 := gn_ne (by first | exact gxx rfl | omega)
    have t5_2 : gn (pt g3 77 13 (nJ ((gn g3 77 9)))) 77 8 = gn g3 77 8 := gn_ne (by first | exact gxx rfl | omega)
    have t5_3 : gn (pt g3 77 13 (nJ ((gn g3 77 9)))) 77 9 = gn g3 77 9 := gn_ne (by first | exact gxx rfl | omega)
    have t5_4 : gn (pt g3 77 13 (nJ ((gn g3 77 9)))) 77 12 = gn g3 77 12 := gn_ne (by first | exact gxx rfl | omega)
    generalize hz5 : (pt g3 77 13 (nJ ((gn g3 77 9)))) = g5 at hh5 fr5 t5_0 t5_1 t5_2 t5_3 t5_4 ⊢
    exact E_ret rfl ⟨rfl, hh5, fr5, by omega⟩
  · refine E_ifF rfl (decide_eq_false (fun q => hb2 ((nJ_eq0 (by omega)).mp q))) ?_
    exact E_ret rfl ⟨rfl, hh0, (fr_rf FB h0), by omega⟩
theorem sp_is {h0 : pm_H} {d : Nat} {x : Int64} (hh0 : HH h0) : Sp (d + 1) 264 h0 [.ref 77, .long x] (fun h' r => h' = h0 ∧ (r = some (.int (nJ 0)) ∨ r = some (.int (nJ 1)) ∧ gn h0 77 12 = 0 ∧ gn h0 77 8 = 1)) := by
  refine Sp_of aiX9_is rfl rfl rfl ?_
  have L0 : pm_get (lv_args 0 [.ref 77, .long x]) 0 = some (.ref 77) := rfl
  have L1 : pm_get (lv_args 0 [.ref 77, .long x]) 1 = some (.long x) := rfl
  generalize lv_args 0 [.ref 77, .long x] = lv at L0 L1 ⊢
  have h5 := b500 hh0
  refine E_al rfl L0 ?_
  have b1 : gn h0 77 12 ≤ 3 := gn_hi hh0 rfl (by decide)
  refine E_gf rfl hh0 rfl (gi_gn hh0 rfl (by decide)) ?_
  by_cases hb2 : ¬ (gn h0 77 12) = 0
  · refine E_ifT rfl (decide_eq_true (fun q => hb2 ((nJ_eq0 (by omega)).mp q))) ?_
    refine E_ci 0 rfl ci0 ?_
    exact E_rtz rfl (.inl rfl) ⟨rfl, .inl rfl⟩
  · refine E_ifF rfl (decide_eq_false (fun q => hb2 (fun z => q ((nJ_eq0 (by omega)).mpr z)))) ?_
    refine E_al rfl L0 ?_
    have b3 : gn h0 77 8 ≤ 4 := gn_hi hh0 rfl (by decide)
    refine E_gf rfl hh0 rfl (gi_gn hh0 rfl (by decide)) ?_
    refine E_ci 1 rfl ci1 ?_
    by_cases hb4 : ¬ (gn h0 77 8) = 1
    · refine E_icT rfl (decide_eq_true (fun q => hb4 ((nJ_eq (by omega) (by omega)).mp q))) ?_
      refine E_ci 0 rfl ci0 ?_
      exact E_rtz rfl (.inl rfl) ⟨rfl, .inl rfl⟩
    · refine E_icF rfl (decide_eq_false (fun q => hb4 (fun z => q ((nJ_eq (by omega) (by omega)).mpr z)))) ?_
      refine E_al rfl L0 ?_
      refine E_gfl rfl hh0 rfl (fun x5 => ?_)
      refine E_ll rfl L1 ?_
      refine E_lcmp rfl ?_
      by_cases hb6 : ¬ (lg_cmp x5 x) = 0
      · refine E_ifT rfl (decide_eq_true hb6) ?_
        refine E_ci 0 rfl ci0 ?_
        exact E_rtz rfl (.inl rfl) ⟨rfl, .inl rfl⟩
      · refine E_ifF rfl (decide_eq_false hb6) ?_
        refine E_ci 1 rfl ci1 ?_
        refine E_goto rfl ?_
        exact E_rtz rfl (.inr rfl) ⟨rfl, .inr ⟨rfl, by omega, by omega⟩⟩
theorem sp_takesWord {h0 : pm_H} {d : Nat} {x : Int64} (hh0 : HH h0) (hr1 : gn h0 77 9 ≤ gn h0 77 7) (hr2 : gn h0 77 7 ≤ gn h0 77 6) (hr3 : gn h0 77 8 = 0 ∨ gn h0 77 9 < gn h0 77 7) : Sp (d + 4) 358 h0 [.ref 77, .long x] (fun h' r => RR h' ∧ fr_g BB h0 h' ∧ gn h0 77 9 ≤ gn h' 77 9 ∧ gn h' 77 12 = gn h0 77 12 ∧ (r = some (.int (nJ 0)) ∨ r = some (.int (nJ 1)))) := by
  refine Sp_of aiX9_takesWord rfl rfl rfl ?_
  have L0 : pm_get (lv_args 0 [.ref 77, .long x]) 0 = some (.ref 77) := rfl
  have L1 : pm_get (lv_args 0 [.ref 77, .long x]) 1 = some (.long x) := rfl
  generalize lv_args 0 [.ref 77, .long x] = lv at L0 L1 ⊢
  have h5 := b500 hh0
  refine E_al rfl L0 ?_
  refine E_ll rfl L1 ?_
  refine E_call rfl (Sp_le (by first | exact Nat.add_le_add_left (Nat.le_of_ble_eq_true rfl) _ | exact Nat.le_of_ble_eq_true rfl | omega) (sp_is (d := 0) hh0)) (chk77 hh0 rfl rfl (by show 0 ≤ 8; decide)) (fun h1 r1 => ?_)
  rintro ⟨e1, f1⟩
  rw [e1]
  rcases f1 with f1 | ⟨f1, ib1, it1⟩
  · rw [f1]
    show Ends _ _ (5, lv, [.int (nJ 0)], h0, 0, 0) _
    refine E_ifF rfl (by decide) ?_
    refine E_ci 0 rfl ci0 ?_
    exact E_rtz rfl (.inl rfl) ⟨⟨hh0, by omega, by omega, by omega⟩, (fr_rf BB h0), by omega, by omega, .inl rfl⟩
  · rw [f1]
    show Ends _ _ (5, lv, [.int (nJ 1)], h0, 0, 0) _
    refine E_ifT rfl (by decide) ?_
    refine E_al rfl L0 ?_
    refine E_call rfl (Sp_le (by first | exact Nat.add_le_add_left (Nat.le_of_ble_eq_true rfl) _ | exact Nat.le_of_ble_eq_true rfl | omega) (sp_follows (d := 0) hh0 (by omega))) (chk77 hh0 rfl rfl (by show 0 ≤ 8; decide)) (fun h2 r2 => ?_)
    rintro ⟨e2, ⟨hh2, ra2, rb2, rc2⟩, fq2, mo2⟩
    rw [e2]
    have fr2 : fr_g BB h0 h2 := fr_trans (fr_rf BB h0) (fr_wk rfl fq2)
    have t2_0 : gn h2 77 6 = gn h0 77 6 := fr_gn fq2 rfl
    have t2_4 : gn h2 77 12 = gn h0 77 12 := fr_gn fq2 rfl
    show Ends _ _ (14, lv, [], h2, 0, 0) _
    refine E_ci 1 rfl ci1 ?_
    exact E_rtz rfl (.inr rfl) ⟨⟨hh2, by omega, by omega, by omega⟩, fr2, by omega, by omega, .inr rfl⟩
theorem sp_asks {h0 : pm_H} {d : Nat} {x : Int64} (hh0 : HH h0) (hr1 : gn h0 77 9 ≤ gn h0 77 7) (hr2 : gn h0 77 7 ≤ gn h0 77 6) (hr3 : gn h0 77 8 = 0 ∨ gn h0 77 9 < gn h0 77 7) : Sp (d + 5) 210 h0 [.ref 77, .long x] (fun h' r => r = none ∧ RR h' ∧ fr_g BB h0 h' ∧ gn h0 77 9 ≤ gn h' 77 9 ∧ (gn h' 77 12 = 0 → gn h0 77 12 = 0)) := by
  refine Sp_of aiX9_asks rfl rfl rfl ?_
  have L0 : pm_get (lv_args 0 [.ref 77, .long x]) 0 = some (.ref 77) := rfl
  have L1 : pm_get (lv_args 0 [.ref 77, .long x]) 1 = some (.long x) := rfl
  generalize lv_args 0 [.ref 77, .long x] = lv at L0 L1 ⊢
  have h5 := b500 hh0
  refine E_al rfl L0 ?_
  refine E_ll rfl L1 ?_
  refine E_call rfl (Sp_le (by first | exact Nat.add_le_add_left (Nat.le_of_ble_eq_true rfl) _ | exact Nat.le_of_ble_eq_true rfl | omega) (sp_takesWord (d := 0) hh0 (by omega) (by omega) (by omega))) (chk77 hh0 rfl rfl (by show 0 ≤ 8; decide)) (fun h1 r1 => ?_)
  rintro ⟨⟨hh1, ra1, rb1, rc1⟩, fq1, mo1, bd1, f1⟩
  have fr1 : fr_g BB h0 h1 := fr_trans (fr_rf BB h0) (fr_wk rfl fq1)
  have t1_0 : gn h1 77 6 = gn h0 77 6 := fr_gn fq1 rfl
  rcases f1 with f1 | f1
  · rw [f1]
    show Ends _ _ (5, lv, [.int (nJ 0)], h1, 0, 0) _
    refine E_ifF rfl (by decide) ?_
    refine E_al rfl L0 ?_
    refine E_ci 1 rfl ci1 ?_
    refine E_call rfl (Sp_le (by first | exact Nat.add_le_add_left (Nat.le_of_ble_eq_true rfl) _ | exact Nat.le_of_ble_eq_true rfl | omega) (sp_fails (d := 0) (k := 1) hh1 (by omega) (by omega))) (chk77 hh1 rfl rfl (by show 0 ≤ 8; decide)) (fun h2 r2 => ?_)
    rintro ⟨e2, hh2, fq2, mo2⟩
    rw [e2]
    have fr2 : fr_g BB h0 h2 := fr_trans fr1 (fr_wk rfl fq2)
    have t2_0 : gn h2 77 6 = gn h1 77 6 := fr_gn fq2 rfl
    have t2_1 : gn h2 77 7 = gn h1 77 7 := fr_gn fq2 rfl
    have t2_2 : gn h2 77 8 = gn h1 77 8 := fr_gn fq2 rfl
    have t2_3 : gn h2 77 9 = gn h1 77 9 := fr_gn fq2 rfl
    show Ends _ _ (13, lv, [], h2, 0, 0) _
    exact E_ret rfl ⟨rfl, ⟨hh2, by omega, by omega, by omega⟩, fr2, by omega, by omega⟩
  · rw [f1]
    show Ends _ _ (5, lv, [.int (nJ 1)], h1, 0, 0) _
    refine E_ifT rfl (by decide) ?_
    exact E_ret rfl ⟨rfl, ⟨hh1, by omega, by omega, by omega⟩, fr1, by omega, by omega⟩
theorem sp_number {h0 : pm_H} {d : Nat} {lo hi : Nat} (hh0 : HH h0) (hr1 : gn h0 77 9 ≤ gn h0 77 7) (hr2 : gn h0 77 7 ≤ gn h0 77 6) (hr3 : gn h0 77 8 = 0 ∨ gn h0 77 9 < gn h0 77 7) (hlh : lo ≤ hi) (hi2 : hi < 2147483648) : Sp (d + 4) 316 h0 [.ref 77, .int (nJ lo), .int (nJ hi)] (fun h' r => RR h' ∧ fr_g BB h0 h' ∧ gn h0 77 9 ≤ gn h' 77 9 ∧ ∃ v, lo ≤ v ∧ v ≤ hi ∧ r = some (.int (nJ v)) ∧ (gn h' 77 12 = 0 → gn h0 77 12 = 0 ∧ gn h0 77 8 = 2 ∧ gi h0 77 10 = nJ v)) := by
  refine Sp_of aiX9_number rfl rfl rfl ?_
  have L0 : pm_get (lv_args 0 [.ref 77, .int (nJ lo), .int (nJ hi)]) 0 = some (.ref 77) := rfl
  have L1 : pm_get (lv_args 0 [.ref 77, .int (nJ lo), .int (nJ hi)]) 1 = some (.int (nJ lo)) := rfl
  have L2 : pm_get (lv_args 0 [.ref 77, .int (nJ lo), .int (nJ hi)]) 2 = some (.int (nJ hi)) := rfl
  generalize lv_args 0 [.ref 77, .int (nJ lo), .int (nJ hi)] = lv at L0 L1 L2 ⊢
  have h5 := b500 hh0
  refine E_al rfl L0 ?_
  have b1 : gn h0 77 12 ≤ 3 := gn_hi hh0 rfl (by decide)
  refine E_gf rfl hh0 rfl (gi_gn hh0 rfl (by decide)) ?_
  by_cases hb2 : (gn h0 77 12) = 0
  · refine E_ifT rfl (decide_eq_true ((nJ_eq0 (by omega)).mpr hb2)) ?_
    refine E_al rfl L0 ?_
    have b3 : gn h0 77 8 ≤ 4 := gn_hi hh0 rfl (by decide)
    refine E_gf rfl hh0 rfl (gi_gn hh0 rfl (by decide)) ?_
    refine E_ci 2 rfl ci2 ?_
    by_cases hb4 : (gn h0 77 8) = 2
    · refine E_icT rfl (decide_eq_true ((nJ_eq (by omega) (by omega)).mpr hb4)) ?_
      refine E_al rfl L0 ?_
      refine E_gf rfl hh0 rfl (rfl) ?_
      refine E_i2l rfl ?_
      refine E_il rfl L1 ?_
      refine E_i2l rfl ?_
      refine E_il rfl L2 ?_
      refine E_i2l rfl ?_
      refine E_call rfl (sp_in (a := ((gi h0 77 10)).toInt) (b := ((lo : Nat) : Int)) (c := ((hi : Nat) : Int)) (i2l_toInt _) (i2l_nJ (by omega)) (i2l_nJ (by omega))) (chkS rfl (by show 0 ≤ 8; decide)) (fun h5 r5 => ?_)
      rintro ⟨e5, f5⟩
      rw [e5, f5]
      show Ends _ _ (36, lv, [.int (zb (((lo : Nat) : Int) ≤ ((gi h0 77 10)).toInt ∧ ((gi h0 77 10)).toInt ≤ ((hi : Nat) : Int)))], h0, 0, 0) _
      by_cases hb6 : ((lo : Nat) : Int) ≤ ((gi h0 77 10)).toInt ∧ ((gi h0 77 10)).toInt ≤ ((hi : Nat) : Int)
      · refine E_ifT rfl (by rw [zb_T hb6]; rfl) ?_
        obtain ⟨v9, hv2, hv9⟩ := nJ_of2 (n := hi) (x := gi h0 77 10) (by have := hb6.1; omega) hb6.2
        have hv1 : lo ≤ v9 := by have h9 := hb6.1; rw [hv9, nJ_toInt (by omega)] at h9; omega
        refine E_al rfl L0 ?_
        refine E_gf rfl hh0 rfl (show gi h0 77 10 = nJ v9 from hv9) ?_
        refine E_is rfl (fun lv7 L7_3 kp7 => ?_)
        have L7_0 := kp7 0 _ (nbz rfl) rfl L0
        have L7_1 := kp7 1 _ (nbz rfl) rfl L1
        have L7_2 := kp7 2 _ (nbz rfl) rfl L2
        refine E_al rfl L7_0 ?_
        refine E_call rfl (Sp_le (by first | exact Nat.add_le_add_left (Nat.le_of_ble_eq_true rfl) _ | exact Nat.le_of_ble_eq_true rfl | omega) (sp_follows (d := 0) hh0 (by omega))) (chk77 hh0 rfl rfl (by show 0 ≤ 8; decide)) (fun h8 r8 => ?_)
        rintro ⟨e8, ⟨hh8, ra8, rb8, rc8⟩, fq8, mo8⟩
        rw [e8]
        have fr8 : fr_g BB h0 h8 := fr_trans (fr_rf BB h0) (fr_wk rfl fq8)
        have t8_0 : gn h8 77 6 = gn h0 77 6 := fr_gn fq8 rfl
        have t8_4 : gn h8 77 12 = gn h0 77 12 := fr_gn fq8 rfl
        show Ends _ _ (55, lv7, [], h8, 0, 0) _
        refine E_il rfl L7_3 ?_
        exact E_rti rfl ⟨⟨hh8, by omega, by omega, by omega⟩, fr8, by omega, v9, hv1, hv2, rfl, fun _ => ⟨by omega, by omega, hv9⟩⟩
      · refine E_ifF rfl (by rw [zb_F hb6]; rfl) ?_
        refine E_al rfl L0 ?_
        refine E_ci 2 rfl ci2 ?_
        refine E_call rfl (Sp_le (by first | exact Nat.add_le_add_left (Nat.le_of_ble_eq_true rfl) _ | exact Nat.le_of_ble_eq_true rfl | omega) (sp_fails (d := 0) (k := 2) hh0 (by omega) (by omega))) (chk77 hh0 rfl rfl (by show 0 ≤ 8; decide)) (fun h9 r9 => ?_)
        rintro ⟨e9, hh9, fq9, mo9⟩
        rw [e9]
        have fr9 : fr_g BB h0 h9 := fr_trans (fr_rf BB h0) (fr_wk rfl fq9)
        have t9_0 : gn h9 77 6 = gn h0 77 6 := fr_gn fq9 rfl
        have t9_1 : gn h9 77 7 = gn h0 77 7 := fr_gn fq9 rfl
        have t9_2 : gn h9 77 8 = gn h0 77 8 := fr_gn fq9 rfl
        have t9_3 : gn h9 77 9 = gn h0 77 9 := fr_gn fq9 rfl
        show Ends _ _ (44, lv, [], h9, 0, 0) _
        refine E_il rfl L1 ?_
        exact E_rti rfl ⟨⟨hh9, by omega, by omega, by omega⟩, fr9, by omega, lo, Nat.le_refl _, hlh, rfl, fun q => by omega⟩
    · refine E_icF rfl (decide_eq_false (fun q => hb4 ((nJ_eq (by omega) (by omega)).mp q))) ?_
      refine E_al rfl L0 ?_
      refine E_ci 1 rfl ci1 ?_
      refine E_call rfl (Sp_le (by first | exact Nat.add_le_add_left (Nat.le_of_ble_eq_true rfl) _ | exact Nat.le_of_ble_eq_true rfl | omega) (sp_fails (d := 0) (k := 1) hh0 (by omega) (by omega))) (chk77 hh0 rfl rfl (by show 0 ≤ 8; decide)) (fun h10 r10 => ?_)
      rintro ⟨e10, hh10, fq10, mo10⟩
      rw [e10]
      have fr10 : fr_g BB h0 h10 := fr_trans (fr_rf BB h0) (fr_wk rfl fq10)
      have t10_0 : gn h10 77 6 = gn h0 77 6 := fr_gn fq10 rfl
      have t10_1 : gn h10 77 7 = gn h0 77 7 := fr_gn fq10 rfl
      have t10_2 : gn h10 77 8 = gn h0 77 8 := fr_gn fq10 rfl
      have t10_3 : gn h10 77 9 = gn h0 77 9 := fr_gn fq10 rfl
      show Ends _ _ (22, lv, [], h10, 0, 0) _
      refine E_il rfl L1 ?_
      exact E_rti rfl ⟨⟨hh10, by omega, by omega, by omega⟩, fr10, by omega, lo, Nat.le_refl _, hlh, rfl, fun q => by omega⟩
  · refine E_ifF rfl (decide_eq_false (fun q => hb2 ((nJ_eq0 (by omega)).mp q))) ?_
    refine E_il rfl L1 ?_
    exact E_rti rfl ⟨⟨hh0, by omega, by omega, by omega⟩, (fr_rf BB h0), by omega, lo, Nat.le_refl _, hlh, rfl, fun q => by omega⟩
end
