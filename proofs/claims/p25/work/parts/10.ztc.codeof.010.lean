section
theorem sp_is {h0 : pm_H} {d : Nat} {x : Int64} (hh0 : HH h0) : Sp (d + 1) 264 h0 [.ref 77, .long x] (fun h' r => h' = h0 ∧ (r = some (.int (nJ 0)) ∨ r = some (.int (nJ 1)) ∧ gn h0 77 12 = 0 ∧ gn h0 77 8 = 1)) := by
  refine Sp_of aiX9_is rfl rfl rfl ?_
  have L0 : pm_get (lv_args 0 [.ref 77, .long x]) 0 = some (.ref 77) := rfl
  have L1 : pm_get (lv_args 0 [.ref 77, .long x]) 1 = some (.long x) := rfl
  generalize lv_args 0 [.ref 77, .long x] = lv at L0 L1 ⊢
  have h5 := b500 hh0
  refine E_al rfl L0 ?_
  have b1 : gn h0 77 12 ≤ 3 := gn_hi hh0 rfl (by decide)
  refine E_gf rfl hh0 rfl (gi_gn hh0 rfl (by decide)) ?_
  by_cases hb2 : ¬ (gn h0 77 12) = 0
  · refine E_ifT rfl (decide_eq_true (fun q => hb2 ((nJ_eq0 (by omega)).mp q))) ?_
    refine E_ci 0 rfl (by decide) ?_
    exact E_rtz rfl (.inl rfl) ⟨rfl, .inl rfl⟩
  · refine E_ifF rfl (decide_eq_false (fun q => hb2 (fun z => q ((nJ_eq0 (by omega)).mpr z)))) ?_
    refine E_al rfl L0 ?_
    have b3 : gn h0 77 8 ≤ 4 := gn_hi hh0 rfl (by decide)
    refine E_gf rfl hh0 rfl (gi_gn hh0 rfl (by decide)) ?_
    refine E_ci 1 rfl (by decide) ?_
    by_cases hb4 : ¬ (gn h0 77 8) = 1
    · refine E_icT rfl (decide_eq_true (fun q => hb4 ((nJ_eq (by omega) (by omega)).mp q))) ?_
      refine E_ci 0 rfl (by decide) ?_
      exact E_rtz rfl (.inl rfl) ⟨rfl, .inl rfl⟩
    · refine E_icF rfl (decide_eq_false (fun q => hb4 (fun z => q ((nJ_eq (by omega) (by omega)).mpr z)))) ?_
      refine E_al rfl L0 ?_
      refine E_gfl rfl hh0 rfl (fun x5 => ?_)
      refine E_ll rfl L1 ?_
      refine E_lcmp rfl ?_
      by_cases hb6 : ¬ (lg_cmp x5 x) = 0
      · refine E_ifT rfl (decide_eq_true hb6) ?_
        refine E_ci 0 rfl (by decide) ?_
        exact E_rtz rfl (.inl rfl) ⟨rfl, .inl rfl⟩
      · refine E_ifF rfl (decide_eq_false hb6) ?_
        refine E_ci 1 rfl (by decide) ?_
        refine E_goto rfl ?_
        exact E_rtz rfl (.inr rfl) ⟨rfl, .inr ⟨rfl, by omega, by omega⟩⟩
theorem sp_takesWord {h0 : pm_H} {d : Nat} {x : Int64} (hh0 : HH h0) (hr1 : gn h0 77 9 ≤ gn h0 77 7) (hr2 : gn h0 77 7 ≤ gn h0 77 6) (hr3 : gn h0 77 8 = 0 ∨ gn h0 77 9 < gn h0 77 7) : Sp (d + 4) 358 h0 [.ref 77, .long x] (fun h' r => RR h' ∧ fr_g BB h0 h' ∧ gn h0 77 9 ≤ gn h' 77 9 ∧ gn h' 77 12 = gn h0 77 12 ∧ (r = some (.int (nJ 0)) ∨ r = some (.int (nJ 1)))) := by
  refine Sp_of aiX9_takesWord rfl rfl rfl ?_
  have L0 : pm_get (lv_args 0 [.ref 77, .long x]) 0 = some (.ref 77) := rfl
  have L1 : pm_get (lv_args 0 [.ref 77, .long x]) 1 = some (.long x) := rfl
  generalize lv_args 0 [.ref 77, .long x] = lv at L0 L1 ⊢
  have h5 := b500 hh0
  refine E_al rfl L0 ?_
  refine E_ll rfl L1 ?_
  refine E_call rfl (Sp_le (by omega) (sp_is (d := 0) hh0)) (chk77 hh0 rfl rfl (by show 0 ≤ 8; decide)) (fun h1 r1 => ?_)
  rintro ⟨e1, f1⟩
  rw [e1]
  rcases f1 with f1 | ⟨f1, ib1, it1⟩
  · rw [f1]
    show Ends _ _ (5, lv, [.int (nJ 0)], h0, 0, 0) _
    refine E_ifF rfl (by decide) ?_
    refine E_ci 0 rfl (by decide) ?_
    exact E_rtz rfl (.inl rfl) ⟨⟨hh0, by omega, by omega, by omega⟩, (fr_rf BB h0), by omega, by omega, .inl rfl⟩
  · rw [f1]
    show Ends _ _ (5, lv, [.int (nJ 1)], h0, 0, 0) _
    refine E_ifT rfl (by decide) ?_
    refine E_al rfl L0 ?_
    refine E_call rfl (Sp_le (by omega) (sp_follows (d := 0) hh0 (by omega))) (chk77 hh0 rfl rfl (by show 0 ≤ 8; decide)) (fun h2 r2 => ?_)
    rintro ⟨e2, ⟨hh2, ra2, rb2, rc2⟩, fq2, mo2⟩
    rw [e2]
    have fr2 : fr_g BB h0 h2 := fr_trans (fr_rf BB h0) (fr_wk rfl fq2)
    have t2_0 : gn h2 77 6 = gn h0 77 6 := fr_gn fq2 rfl
    have t2_4 : gn h2 77 12 = gn h0 77 12 := fr_gn fq2 rfl
    show Ends _ _ (14, lv, [], h2, 0, 0) _
    refine E_ci 1 rfl (by decide) ?_
    exact E_rtz rfl (.inr rfl) ⟨⟨hh2, by omega, by omega, by omega⟩, fr2, by omega, by omega, .inr rfl⟩
theorem sp_asks {h0 : pm_H} {d : Nat} {x : Int64} (hh0 : HH h0) (hr1 : gn h0 77 9 ≤ gn h0 77 7) (hr2 : gn h0 77 7 ≤ gn h0 77 6) (hr3 : gn h0 77 8 = 0 ∨ gn h0 77 9 < gn h0 77 7) : Sp (d + 5) 210 h0 [.ref 77, .long x] (fun h' r => r = none ∧ RR h' ∧ fr_g BB h0 h' ∧ gn h0 77 9 ≤ gn h' 77 9 ∧ (gn h' 77 12 = 0 → gn h0 77 12 = 0)) := by
  refine Sp_of aiX9_asks rfl rfl rfl ?_
  have L0 : pm_get (lv_args 0 [.ref 77, .long x]) 0 = some (.ref 77) := rfl
  have L1 : pm_get (lv_args 0 [.ref 77, .long x]) 1 = some (.long x) := rfl
  generalize lv_args 0 [.ref 77, .long x] = lv at L0 L1 ⊢
  have h5 := b500 hh0
  refine E_al rfl L0 ?_
  refine E_ll rfl L1 ?_
  refine E_call rfl (Sp_le (by omega) (sp_takesWord (d := 0) hh0 (by omega) (by omega) (by omega))) (chk77 hh0 rfl rfl (by show 0 ≤ 8; decide)) (fun h1 r1 => ?_)
  rintro ⟨⟨hh1, ra1, rb1, rc1⟩, fq1, mo1, bd1, f1⟩
  have fr1 : fr_g BB h0 h1 := fr_trans (fr_rf BB h0) (fr_wk rfl fq1)
  have t1_0 : gn h1 77 6 = gn h0 77 6 := fr_gn fq1 rfl
  rcases f1 with f1 | f1
  · rw [f1]
    show Ends _ _ (5, lv, [.int (nJ 0)], h1, 0, 0) _
    refine E_ifF rfl (by decide) ?_
    refine E_al rfl L0 ?_
    refine E_ci 1 rfl (by decide) ?_
    refine E_call rfl (Sp_le (by omega) (sp_fails (d := 0) (k := 1) hh1 (by omega) (by omega))) (chk77 hh1 rfl rfl (by show 0 ≤ 8; decide)) (fun h2 r2 => ?_)
    rintro ⟨e2, hh2, fq2, mo2⟩
    rw [e2]
    have fr2 : fr_g BB h0 h2 := fr_trans fr1 (fr_wk rfl fq2)
    have t2_0 : gn h2 77 6 = gn h1 77 6 := fr_gn fq2 rfl
    have t2_1 : gn h2 77 7 = gn h1 77 7 := fr_gn fq2 rfl
    have t2_2 : gn h2 77 8 = gn h1 77 8 := fr_gn fq2 rfl
    have t2_3 : gn h2 77 9 = gn h1 77 9 := fr_gn fq2 rfl
    show Ends _ _ (13, lv, [], h2, 0, 0) _
    exact E_ret rfl ⟨rfl, ⟨hh2, by omega, by omega, by omega⟩, fr2, by omega, by omega⟩
  · rw [f1]
    show Ends _ _ (5, lv, [.int (nJ 1)], h1, 0, 0) _
    refine E_ifT rfl (by decide) ?_
    exact E_ret rfl ⟨rfl, ⟨hh1, by omega, by omega, by omega⟩, fr1, by omega, by omega⟩
theorem sp_number {h0 : pm_H} {d : Nat} {lo hi : Nat} (hh0 : HH h0) (hr1 : gn h0 77 9 ≤ gn h0 77 7) (hr2 : gn h0 77 7 ≤ gn h0 77 6) (hr3 : gn h0 77 8 = 0 ∨ gn h0 77 9 < gn h0 77 7) (hlh : lo ≤ hi) (hi2 : hi < 2147483648) : Sp (d + 4) 316 h0 [.ref 77, .int (nJ lo), .int (nJ hi)] (fun h' r => RR h' ∧ fr_g BB h0 h' ∧ gn h0 77 9 ≤ gn h' 77 9 ∧ ∃ v, lo ≤ v ∧ v ≤ hi ∧ r = some (.int (nJ v)) ∧ (gn h' 77 12 = 0 → gn h0 77 12 = 0 ∧ gn h0 77 8 = 2 ∧ gi h0 77 10 = nJ v)) := by
  refine Sp_of aiX9_number rfl rfl rfl ?_
  have L0 : pm_get (lv_args 0 [.ref 77, .int (nJ lo), .int (nJ hi)]) 0 = some (.ref 77) := rfl
  have L1 : pm_get (lv_args 0 [.ref 77, .int (nJ lo), .int (nJ hi)]) 1 = some (.int (nJ lo)) := rfl
  have L2 : pm_get (lv_args 0 [.ref 77, .int (nJ lo), .int (nJ hi)]) 2 = some (.int (nJ hi)) := rfl
  generalize lv_args 0 [.ref 77, .int (nJ lo), .int (nJ hi)] = lv at L0 L1 L2 ⊢
  have h5 := b500 hh0
  refine E_al rfl L0 ?_
  have b1 : gn h0 77 12 ≤ 3 := gn_hi hh0 rfl (by decide)
  refine E_gf rfl hh0 rfl (gi_gn hh0 rfl (by decide)) ?_
  by_cases hb2 : (gn h0 77 12) = 0
  · refine E_ifT rfl (decide_eq_true ((nJ_eq0 (by omega)).mpr hb2)) ?_
    refine E_al rfl L0 ?_
    have b3 : gn h0 77 8 ≤ 4 := gn_hi hh0 rfl (by decide)
    refine E_gf rfl hh0 rfl (gi_gn hh0 rfl (by decide)) ?_
    refine E_ci 2 rfl (by decide) ?_
    by_cases hb4 : (gn h0 77 8) = 2
    · refine E_icT rfl (decide_eq_true ((nJ_eq (by omega) (by omega)).mpr hb4)) ?_
      refine E_al rfl L0 ?_
      refine E_gf rfl hh0 rfl (rfl) ?_
      refine E_i2l rfl ?_
      refine E_il rfl L1 ?_
      refine E_i2l rfl ?_
      refine E_il rfl L2 ?_
      refine E_i2l rfl ?_
      refine E_call rfl (sp_in (a := ((gi h0 77 10)).toInt) (b := ((lo : Nat) : Int)) (c := ((hi : Nat) : Int)) (i2l_toInt _) (i2l_nJ (by omega)) (i2l_nJ (by omega))) (chkS rfl (by show 0 ≤ 8; decide)) (fun h5 r5 => ?_)
      rintro ⟨e5, f5⟩
      rw [e5, f5]
      show Ends _ _ (36, lv, [.int (zb (((lo : Nat) : Int) ≤ ((gi h0 77 10)).toInt ∧ ((gi h0 77 10)).toInt ≤ ((hi : Nat) : Int)))], h0, 0, 0) _
      by_cases hb6 : ((lo : Nat) : Int) ≤ ((gi h0 77 10)).toInt ∧ ((gi h0 77 10)).toInt ≤ ((hi : Nat) : Int)
      · refine E_ifT rfl (by rw [zb_T hb6]; rfl) ?_
        obtain ⟨v9, hv2, hv9⟩ := nJ_of2 (n := hi) (x := gi h0 77 10) (by have := hb6.1; omega) hb6.2
        have hv1 : lo ≤ v9 := by have h9 := hb6.1; rw [hv9, nJ_toInt (by omega)] at h9; omega
        refine E_al rfl L0 ?_
        refine E_gf rfl hh0 rfl (show gi h0 77 10 = nJ v9 from hv9) ?_
        refine E_is rfl (fun lv7 L7_3 kp7 => ?_)
        have L7_0 := kp7 0 _ (by decide) rfl L0
        have L7_1 := kp7 1 _ (by decide) rfl L1
        have L7_2 := kp7 2 _ (by decide) rfl L2
        refine E_al rfl L7_0 ?_
        refine E_call rfl (Sp_le (by omega) (sp_follows (d := 0) hh0 (by omega))) (chk77 hh0 rfl rfl (by show 0 ≤ 8; decide)) (fun h8 r8 => ?_)
        rintro ⟨e8, ⟨hh8, ra8, rb8, rc8⟩, fq8, mo8⟩
        rw [e8]
        have fr8 : fr_g BB h0 h8 := fr_trans (fr_rf BB h0) (fr_wk rfl fq8)
        have t8_0 : gn h8 77 6 = gn h0 77 6 := fr_gn fq8 rfl
        have t8_4 : gn h8 77 12 = gn h0 77 12 := fr_gn fq8 rfl
        show Ends _ _ (55, lv7, [], h8, 0, 0) _
        refine E_il rfl L7_3 ?_
        exact E_rti rfl ⟨⟨hh8, by omega, by omega, by omega⟩, fr8, by omega, v9, hv1, hv2, rfl, fun _ => ⟨by omega, by omega, hv9⟩⟩
      · refine E_ifF rfl (by rw [zb_F hb6]; rfl) ?_
        refine E_al rfl L0 ?_
        refine E_ci 2 rfl (by decide) ?_
        refine E_call rfl (Sp_le (by omega) (sp_fails (d := 0) (k := 2) hh0 (by omega) (by omega))) (chk77 hh0 rfl rfl (by show 0 ≤ 8; decide)) (fun h9 r9 => ?_)
        rintro ⟨e9, hh9, fq9, mo9⟩
        rw [e9]
        have fr9 : fr_g BB h0 h9 := fr_trans (fr_rf BB h0) (fr_wk rfl fq9)
        have t9_0 : gn h9 77 6 = gn h0 77 6 := fr_gn fq9 rfl
        have t9_1 : gn h9 77 7 = gn h0 77 7 := fr_gn fq9 rfl
        have t9_2 : gn h9 77 8 = gn h0 77 8 := fr_gn fq9 rfl
        have t9_3 : gn h9 77 9 = gn h0 77 9 := fr_gn fq9 rfl
        show Ends _ _ (44, lv, [], h9, 0, 0) _
        refine E_il rfl L1 ?_
        exact E_rti rfl ⟨⟨hh9, by omega, by omega, by omega⟩, fr9, by omega, lo, Nat.le_refl _, hlh, rfl, fun q => by omega⟩
    · refine E_icF rfl (decide_eq_false (fun q => hb4 ((nJ_eq (by omega) (by omega)).mp q))) ?_
      refine E_al rfl L0 ?_
      refine E_ci 1 rfl (by decide) ?_
      refine E_call rfl (Sp_le (by omega) (sp_fails (d := 0) (k := 1) hh0 (by omega) (by omega))) (chk77 hh0 rfl rfl (by show 0 ≤ 8; decide)) (fun h10 r10 => ?_)
      rintro ⟨e10, hh10, fq10, mo10⟩
      rw [e10]
      have fr10 : fr_g BB h0 h10 := fr_trans (fr_rf BB h0) (fr_wk rfl fq10)
      have t10_0 : gn h10 77 6 = gn h0 77 6 := fr_gn fq10 rfl
      have t10_1 : gn h10 77 7 = gn h0 77 7 := fr_gn fq10 rfl
      have t10_2 : gn h10 77 8 = gn h0 77 8 := fr_gn fq10 rfl
      have t10_3 : gn h10 77 9 = gn h0 77 9 := fr_gn fq10 rfl
      show Ends _ _ (22, lv, [], h10, 0, 0) _
      refine E_il rfl L1 ?_
      exact E_rti rfl ⟨⟨hh10, by omega, by omega, by omega⟩, fr10, by omega, lo, Nat.le_refl _, hlh, rfl, fun q => by omega⟩
  · refine E_ifF rfl (decide_eq_false (fun q => hb2 ((nJ_eq0 (by omega)).mp q))) ?_
    refine E_il rfl L1 ?_
    exact E_rti rfl ⟨⟨hh0, by omega, by omega, by omega⟩, (fr_rf BB h0), by omega, lo, Nat.le_refl _, hlh, rfl, fun q => by omega⟩
end
