section
theorem sp_number_ {h0 : pm_H} {d : Nat} {x : Int64} {lo hi : Nat} (hh0 : HH h0) (hr1 : gn h0 77 9 ≤ gn h0 77 7) (hr2 : gn h0 77 7 ≤ gn h0 77 6) (hr3 : gn h0 77 8 = 0 ∨ gn h0 77 9 < gn h0 77 7) (hlh : lo ≤ hi) (hi2 : hi < 2147483648) : Sp (d + 6) 317 h0 [.ref 77, .long x, .int (nJ lo), .int (nJ hi)] (fun h' r => RR h' ∧ fr_g BB h0 h' ∧ gn h0 77 9 ≤ gn h' 77 9 ∧ ∃ v, lo ≤ v ∧ v ≤ hi ∧ r = some (.int (nJ v)) ∧ (gn h' 77 12 = 0 → gn h0 77 12 = 0)) := by
  refine Sp_of aiX9_number_ rfl rfl rfl ?_
  have L0 : pm_get (lv_args 0 [.ref 77, .long x, .int (nJ lo), .int (nJ hi)]) 0 = some (.ref 77) := rfl
  have L1 : pm_get (lv_args 0 [.ref 77, .long x, .int (nJ lo), .int (nJ hi)]) 1 = some (.long x) := rfl
  have L3 : pm_get (lv_args 0 [.ref 77, .long x, .int (nJ lo), .int (nJ hi)]) 3 = some (.int (nJ lo)) := rfl
  have L4 : pm_get (lv_args 0 [.ref 77, .long x, .int (nJ lo), .int (nJ hi)]) 4 = some (.int (nJ hi)) := rfl
  generalize lv_args 0 [.ref 77, .long x, .int (nJ lo), .int (nJ hi)] = lv at L0 L1 L3 L4 ⊢
  have h5 := b500 hh0
  refine E_al rfl L0 ?_
  refine E_ll rfl L1 ?_
  refine E_call rfl (Sp_le (by first | exact Nat.add_le_add_left (Nat.le_of_ble_eq_true rfl) _ | exact Nat.le_of_ble_eq_true rfl | omega) (sp_asks (d := 0) hh0 (by omega) (by omega) (by omega))) (chk77 hh0 rfl rfl (by show 0 ≤ 8; decide)) (fun h1 r1 => ?_)
  rintro ⟨e1, ⟨hh1, ra1, rb1, rc1⟩, fq1, mo1, bd1⟩
  rw [e1]
  have fr1 : fr_g BB h0 h1 := fr_trans (fr_rf BB h0) (fr_wk rfl fq1)
  have t1_0 : gn h1 77 6 = gn h0 77 6 := fr_gn fq1 rfl
  show Ends _ _ (5, lv, [], h1, 0, 0) _
  refine E_al rfl L0 ?_
  refine E_il rfl L3 ?_
  refine E_il rfl L4 ?_
  refine E_call rfl (Sp_le (by first | exact Nat.add_le_add_left (Nat.le_of_ble_eq_true rfl) _ | exact Nat.le_of_ble_eq_true rfl | omega) (sp_number (d := 0) hh1 (by omega) (by omega) (by omega) (by omega) (by omega))) (chk77 hh1 rfl rfl (by show 0 ≤ 8; decide)) (fun h2 r2 => ?_)
  rintro ⟨⟨hh2, ra2, rb2, rc2⟩, fq2, mo2, v2, va2, vb2, f2, vc2⟩
  rw [f2]
  have fr2 : fr_g BB h0 h2 := fr_trans fr1 (fr_wk rfl fq2)
  have t2_0 : gn h2 77 6 = gn h1 77 6 := fr_gn fq2 rfl
  show Ends _ _ (12, lv, [.int (nJ v2)], h2, 0, 0) _
  exact E_rti rfl ⟨⟨hh2, by omega, by omega, by omega⟩, fr2, by omega, _, va2, vb2, rfl, fun q => by have := vc2 q; omega⟩
theorem sp_closes {h0 : pm_H} {d : Nat} (hh0 : HH h0) (hr1 : gn h0 77 9 ≤ gn h0 77 7) (hr2 : gn h0 77 7 ≤ gn h0 77 6) (hr3 : gn h0 77 8 = 0 ∨ gn h0 77 9 < gn h0 77 7) : Sp (d + 4) 228 h0 [.ref 77] (fun h' r => r = none ∧ RR h' ∧ fr_g BB h0 h' ∧ gn h0 77 9 ≤ gn h' 77 9 ∧ (gn h' 77 12 = 0 → gn h0 77 12 = 0 ∧ gn h0 77 9 < gn h' 77 9)) := by
  refine Sp_of aiX9_closes rfl rfl rfl ?_
  have L0 : pm_get (lv_args 0 [.ref 77]) 0 = some (.ref 77) := rfl
  generalize lv_args 0 [.ref 77] = lv at L0 ⊢
  have h5 := b500 hh0
  refine E_al rfl L0 ?_
  have b1 : gn h0 77 8 ≤ 4 := gn_hi hh0 rfl (by decide)
  refine E_gf rfl hh0 rfl (gi_gn hh0 rfl (by decide)) ?_
  refine E_ci 3 rfl ci3 ?_
  by_cases hb2 : (gn h0 77 8) = 3
  · refine E_icT rfl (decide_eq_true ((nJ_eq (by omega) (by omega)).mpr hb2)) ?_
    refine E_al rfl L0 ?_
    have b3 : gn h0 77 12 ≤ 3 := gn_hi hh0 rfl (by decide)
    refine E_gf rfl hh0 rfl (gi_gn hh0 rfl (by decide)) ?_
    by_cases hb4 : ¬ (gn h0 77 12) = 0
    · refine E_ifT rfl (decide_eq_true (fun q => hb4 ((nJ_eq0 (by omega)).mp q))) ?_
      exact E_ret rfl ⟨rfl, ⟨hh0, by omega, by omega, by omega⟩, (fr_rf BB h0), by omega, by omega⟩
    · refine E_ifF rfl (decide_eq_false (fun q => hb4 (fun z => q ((nJ_eq0 (by omega)).mpr z)))) ?_
      refine E_al rfl L0 ?_
      refine E_call rfl (Sp_le (by first | exact Nat.add_le_add_left (Nat.le_of_ble_eq_true rfl) _ | exact Nat.le_of_ble_eq_true rfl | omega) (sp_follows (d := 0) hh0 (by omega))) (chk77 hh0 rfl rfl (by show 0 ≤ 8; decide)) (fun h5 r5 => ?_)
      rintro ⟨e5, ⟨hh5, ra5, rb5, rc5⟩, fq5, mo5⟩
      rw [e5]
      have fr5 : fr_g BB h0 h5 := fr_trans (fr_rf BB h0) (fr_wk rfl fq5)
      have t5_0 : gn h5 77 6 = gn h0 77 6 := fr_gn fq5 rfl
      have t5_4 : gn h5 77 12 = gn h0 77 12 := fr_gn fq5 rfl
      show Ends _ _ (24, lv, [], h5, 0, 0) _
      exact E_ret rfl ⟨rfl, ⟨hh5, by omega, by omega, by omega⟩, fr5, by omega, by omega⟩
  · refine E_icF rfl (decide_eq_false (fun q => hb2 ((nJ_eq (by omega) (by omega)).mp q))) ?_
    refine E_al rfl L0 ?_
    refine E_ci 1 rfl ci1 ?_
    refine E_call rfl (Sp_le (by first | exact Nat.add_le_add_left (Nat.le_of_ble_eq_true rfl) _ | exact Nat.le_of_ble_eq_true rfl | omega) (sp_fails (d := 0) (k := 1) hh0 (by omega) (by omega))) (chk77 hh0 rfl rfl (by show 0 ≤ 8; decide)) (fun h6 r6 => ?_)
    rintro ⟨e6, hh6, fq6, mo6⟩
    rw [e6]
    have fr6 : fr_g BB h0 h6 := fr_trans (fr_rf BB h0) (fr_wk rfl fq6)
    have t6_0 : gn h6 77 6 = gn h0 77 6 := fr_gn fq6 rfl
    have t6_1 : gn h6 77 7 = gn h0 77 7 := fr_gn fq6 rfl
    have t6_2 : gn h6 77 8 = gn h0 77 8 := fr_gn fq6 rfl
    have t6_3 : gn h6 77 9 = gn h0 77 9 := fr_gn fq6 rfl
    show Ends _ _ (13, lv, [], h6, 0, 0) _
    refine E_al rfl L0 ?_
    have b7 : gn h6 77 12 ≤ 3 := gn_hi hh6 rfl (by decide)
    refine E_gf rfl hh6 rfl (gi_gn hh6 rfl (by decide)) ?_
    by_cases hb8 : ¬ (gn h6 77 12) = 0
    · refine E_ifT rfl (decide_eq_true (fun q => hb8 ((nJ_eq0 (by omega)).mp q))) ?_
      exact E_ret rfl ⟨rfl, ⟨hh6, by omega, by omega, by omega⟩, fr6, by omega, by omega⟩
    · refine E_ifF rfl (decide_eq_false (fun q => hb8 (fun z => q ((nJ_eq0 (by omega)).mpr z)))) ?_
      refine E_al rfl L0 ?_
      refine E_call rfl (Sp_le (by first | exact Nat.add_le_add_left (Nat.le_of_ble_eq_true rfl) _ | exact Nat.le_of_ble_eq_true rfl | omega) (sp_follows (d := 0) hh6 (by omega))) (chk77 hh6 rfl rfl (by show 0 ≤ 8; decide)) (fun h9 r9 => ?_)
      rintro ⟨e9, ⟨hh9, ra9, rb9, rc9⟩, fq9, mo9⟩
      rw [e9]
      have fr9 : fr_g BB h0 h9 := fr_trans fr6 (fr_wk rfl fq9)
      have t9_0 : gn h9 77 6 = gn h6 77 6 := fr_gn fq9 rfl
      have t9_4 : gn h9 77 12 = gn h6 77 12 := fr_gn fq9 rfl
      show Ends _ _ (24, lv, [], h9, 0, 0) _
      exact E_ret rfl ⟨rfl, ⟨hh9, by omega, by omega, by omega⟩, fr9, by omega, by omega⟩
theorem sp_begins {h0 : pm_H} {d : Nat} (hh0 : HH h0) : Sp (d + 4) 213 h0 [.ref 77] (fun h' r => r = none ∧ RR h' ∧ fr_g BB h0 h') := by
  refine Sp_of aiX9_begins rfl rfl rfl ?_
  have L0 : pm_get (lv_args 0 [.ref 77]) 0 = some (.ref 77) := rfl
  generalize lv_args 0 [.ref 77] = lv at L0 ⊢
  have h5 := b500 hh0
  refine E_al rfl L0 ?_
  refine E_ci 0 rfl ci0 ?_
  refine E_pf rfl hh0 rfl ?_
  have hh1 : HH (pt h0 77 12 (nJ 0)) := HH_ptn hh0 rfl (by omega) (by omega) (by omega)
  have fr1 : fr_g BB h0 (pt h0 77 12 (nJ 0)) := fr_ptr (l := 12) (u := 12) rfl (by omega) (by omega) (fr_rf BB h0)
  have t1_0 : gn (pt h0 77 12 (nJ 0)) 77 6 = gn h0 77 6 := gn_ne (by first | exact gxx rfl | omega)
  have t1_1 : gn (pt h0 77 12 (nJ 0)) 77 7 = gn h0 77 7 := gn_ne (by first | exact gxx rfl | omega)
  have t1_2 : gn (pt h0 77 12 (nJ 0)) 77 8 = gn h0 77 8 := gn_ne (by first | exact gxx rfl | omega)
  have t1_3 : gn (pt h0 77 12 (nJ 0)) 77 9 = gn h0 77 9 := gn_ne (by first | exact gxx rfl | omega)
  have t1_4 : gn (pt h0 77 12 (nJ 0)) 77 12 = 0 := gn_ptn hh0 rfl (by omega) (by omega) (by omega)
  generalize hz1 : (pt h0 77 12 (nJ 0)) = g1 at hh1 fr1 t1_0 t1_1 t1_2 t1_3 t1_4 ⊢
  refine E_al rfl L0 ?_
  refine E_c rfl ?_
  refine E_pf rfl hh1 rfl ?_
  have hh2 : HH (pt g1 77 13 (-1)) := HH_pt hh1 rfl (by decide) (by decide)
  have fr2 : fr_g BB h0 (pt g1 77 13 (-1)) := fr_ptr (l := 13) (u := 13) rfl (by omega) (by omega) fr1
  have t2_0 : gn (pt g1 77 13 (-1)) 77 6 = gn g1 77 6 := gn_ne (by first | exact gxx rfl | omega)
  have t2_1 : gn (pt g1 77 13 (-1)) 77 7 = gn g1 77 7 := gn_ne (by first | exact gxx rfl | omega)
  have t2_2 : gn (pt g1 77 13 (-1)) 77 8 = gn g1 77 8 := gn_ne (by first | exact gxx rfl | omega)
  have t2_3 : gn (pt g1 77 13 (-1)) 77 9 = gn g1 77 9 := gn_ne (by first | exact gxx rfl | omega)
  have t2_4 : gn (pt g1 77 13 (-1)) 77 12 = gn g1 77 12 := gn_ne (by first | exact gxx rfl | omega)
  generalize hz2 : (pt g1 77 13 (-1)) = g2 at hh2 fr2 t2_0 t2_1 t2_2 t2_3 t2_4 ⊢
  refine E_al rfl L0 ?_
  refine E_ci 0 rfl ci0 ?_
  refine E_pf rfl hh2 rfl ?_
  have hh3 : HH (pt g2 77 7 (nJ 0)) := HH_ptn hh2 rfl (by omega) (by omega) (by omega)
  have fr3 : fr_g BB h0 (pt g2 77 7 (nJ 0)) := fr_ptr (l := 7) (u := 7) rfl (by omega) (by omega) fr2
  have t3_0 : gn (pt g2 77 7 (nJ 0)) 77 6 = gn g2 77 6 := gn_ne (by first | exact gxx rfl | omega)
  have t3_1 : gn (pt g2 77 7 (nJ 0)) 77 7 = 0 := gn_ptn hh2 rfl (by omega) (by omega) (by omega)
  have t3_2 : gn (pt g2 77 7 (nJ 0)) 77 8 = gn g2 77 8 := gn_ne (by first | exact gxx rfl | omega)
  have t3_3 : gn (pt g2 77 7 (nJ 0)) 77 9 = gn g2 77 9 := gn_ne (by first | exact gxx rfl | omega)
  have t3_4 : gn (pt g2 77 7 (nJ 0)) 77 12 = gn g2 77 12 := gn_ne (by first | exact gxx rfl | omega)
  generalize hz3 : (pt g2 77 7 (nJ 0)) = g3 at hh3 fr3 t3_0 t3_1 t3_2 t3_3 t3_4 ⊢
  refine E_al rfl L0 ?_
  refine E_call rfl (Sp_le (by first | exact Nat.add_le_add_left (Nat.le_of_ble_eq_true rfl) _ | exact Nat.le_of_ble_eq_true rfl | omega) (sp_follows (d := 0) hh3 (by omega))) (chk77 hh3 rfl rfl (by show 0 ≤ 8; decide)) (fun h4 r4 => ?_)
  rintro ⟨e4, ⟨hh4, ra4, rb4, rc4⟩, fq4, mo4⟩
  rw [e4]
  have fr4 : fr_g BB h0 h4 := fr_trans fr3 (fr_wk rfl fq4)
  have t4_0 : gn h4 77 6 = gn g3 77 6 := fr_gn fq4 rfl
  have t4_4 : gn h4 77 12 = gn g3 77 12 := fr_gn fq4 rfl
  show Ends _ _ (19, lv, [], h4, 0, 0) _
  exact E_ret rfl ⟨rfl, ⟨hh4, by omega, by omega, by omega⟩, fr4⟩
noncomputable def OVM : List Rng := [(77, 6, 6), (77, 14, 15)]
theorem sp_isOver {h0 : pm_H} {d : Nat} (hh0 : HH h0) : Sp (d + 1) 275 h0 [.ref 77] (fun h' r => r = none ∧ HH h' ∧ fr_g OVM h0 h') := by
  refine Sp_of aiX9_isOver rfl rfl rfl ?_
  have L0 : pm_get (lv_args 0 [.ref 77]) 0 = some (.ref 77) := rfl
  generalize lv_args 0 [.ref 77] = lv at L0 ⊢
  have h5 := b500 hh0
  refine E_al rfl L0 ?_
  refine E_ci 0 rfl ci0 ?_
  refine E_pf rfl hh0 rfl ?_
  have hh1 : HH (pt h0 77 6 (nJ 0)) := HH_ptn hh0 rfl (by omega) (by omega) (by omega)
  have fr1 : fr_g OVM h0 (pt h0 77 6 (nJ 0)) := fr_ptr (l := 6) (u := 6) rfl (by omega) (by omega) (fr_rf OVM h0)
  refine E_al rfl L0 ?_
  refine E_al rfl L0 ?_
  have b2 : gn (pt h0 77 6 (nJ 0)) 77 12 ≤ 3 := gn_hi hh1 rfl (by decide)
  refine E_gf rfl hh1 rfl (gi_gn hh1 rfl (by decide)) ?_
  refine E_pf rfl hh1 rfl ?_
  have hh3 : HH (pt (pt h0 77 6 (nJ 0)) 77 14 (nJ ((gn (pt h0 77 6 (nJ 0)) 77 12)))) := HH_ptn hh1 rfl (by omega) (by omega) (by omega)
  have fr3 : fr_g OVM h0 (pt (pt h0 77 6 (nJ 0)) 77 14 (nJ ((gn (pt h0 77 6 (nJ 0)) 77 12)))) := fr_ptr (l := 14) (u := 14) rfl (by omega) (by omega) fr1
  refine E_al rfl L0 ?_
  refine E_al rfl L0 ?_
  have b4 : gn (pt (pt h0 77 6 (nJ 0)) 77 14 (nJ ((gn (pt h0 77 6 (nJ 0)) 77 12)))) 77 12 ≤ 3 := gn_hi hh3 rfl (by decide)
  refine E_gf rfl hh3 rfl (gi_gn hh3 rfl (by decide)) ?_
  by_cases hb5 : ¬ (gn (pt (pt h0 77 6 (nJ 0)) 77 14 (nJ ((gn (pt h0 77 6 (nJ 0)) 77 12)))) 77 12) = 0
  · refine E_ifT rfl (decide_eq_true (fun q => hb5 ((nJ_eq0 (by omega)).mp q))) ?_
    refine E_al rfl L0 ?_
    refine E_gf rfl hh3 rfl (rfl) ?_
    refine E_pf rfl hh3 rfl ?_
    have hh6 : HH (pt (pt (pt h0 77 6 (nJ 0)) 77 14 (nJ ((gn (pt h0 77 6 (nJ 0)) 77 12)))) 77 15 (gi (pt (pt h0 77 6 (nJ 0)) 77 14 (nJ ((gn (pt h0 77 6 (nJ 0)) 77 12)))) 77 13)) := HH_pt hh3 rfl (ld_gi hh3 rfl).2.1 (ld_gi hh3 rfl).2.2
    have fr6 : fr_g OVM h0 (pt (pt (pt h0 77 6 (nJ 0)) 77 14 (nJ ((gn (pt h0 77 6 (nJ 0)) 77 12)))) 77 15 (gi (pt (pt h0 77 6 (nJ 0)) 77 14 (nJ ((gn (pt h0 77 6 (nJ 0)) 77 12)))) 77 13)) := fr_ptr (l := 15) (u := 15) rfl (by omega) (by omega) fr3
    exact E_ret rfl ⟨rfl, hh6, fr6⟩
  · refine E_ifF rfl (decide_eq_false (fun q => hb5 (fun z => q ((nJ_eq0 (by omega)).mpr z)))) ?_
    refine E_c rfl ?_
    refine E_goto rfl ?_
    refine E_pf rfl hh3 rfl ?_
    have hh7 : HH (pt (pt (pt h0 77 6 (nJ 0)) 77 14 (nJ ((gn (pt h0 77 6 (nJ 0)) 77 12)))) 77 15 (-1)) := HH_pt hh3 rfl (by decide) (by decide)
    have fr7 : fr_g OVM h0 (pt (pt (pt h0 77 6 (nJ 0)) 77 14 (nJ ((gn (pt h0 77 6 (nJ 0)) 77 12)))) 77 15 (-1)) := fr_ptr (l := 15) (u := 15) rfl (by omega) (by omega) fr3
    exact E_ret rfl ⟨rfl, hh7, fr7⟩
end
section
/-! by hand: rows copied (written by gen_t15.py) -/
/-- acts of a row: what is traded for is a car -/
noncomputable def FAg (r : Nat) (h : pm_H) : Prop := ∀ i, i < 20 → ¬ gn h 87 (60 * r + 3 * i) = 0 → gn h 87 (60 * r + 3 * i + 2) ≤ 7
noncomputable def RV (h : pm_H) : Prop := (∀ r, r < 4 → RI r h) ∧ ∀ r, r < 5 → FAg r h
theorem RI_copy {a b : Nat} {h h' : pm_H} (hc : gn h 84 (6 * a + 3) ≤ 8) (hk : gn h 84 (6 * a + 5) ≤ 20) (h1 : ∀ k, k < 6 → gn h' 84 (6 * b + k) = gn h 84 (6 * a + k)) (h2 : ∀ k, k < 16 → gn h' 85 (16 * b + k) = gn h 85 (16 * a + k)) (h3 : ∀ k, k < 60 → gn h' 87 (60 * b + k) = gn h 87 (60 * a + k)) (R : RI a h) : RI b h' := by
  obtain ⟨r1, r2, r3⟩ := R
  have e3 := h1 3 (by omega)
  have e0 := h1 0 (by omega)
  have e5 := h1 5 (by omega)
  refine ⟨?_, fun c hc' => ?_, fun k hk' => ?_⟩
  · rw [e3]
    have : gn h' 84 (6 * b) = gn h 84 (6 * a) := e0
    rw [this]; exact r1
  · rw [e3] at hc'
    rw [h2 (2 * c) (by omega)]
    exact r2 c hc'
  · rw [e5] at hk'
    have q := r3 k hk'
    have f0 := h3 (3 * k) (by omega)
    have f1 := h3 (3 * k + 1) (by omega)
    have f2 := h3 (3 * k + 2) (by omega)
    rw [show 60 * b + 3 * k + 1 = 60 * b + (3 * k + 1) by omega, show 60 * b + 3 * k + 2 = 60 * b + (3 * k + 2) by omega, f0, f1, f2, e3]
    rw [show 60 * a + (3 * k + 1) = 60 * a + 3 * k + 1 by omega, show 60 * a + (3 * k + 2) = 60 * a + 3 * k + 2 by omega]
    exact q
theorem FAg_copy {a b : Nat} {h h' : pm_H} (h3 : ∀ k, k < 60 → gn h' 87 (60 * b + k) = gn h 87 (60 * a + k)) (F : FAg a h) : FAg b h' := by
  intro i hi
  have f0 := h3 (3 * i) (by omega)
  have f2 := h3 (3 * i + 2) (by omega)
  rw [show 60 * b + 3 * i + 2 = 60 * b + (3 * i + 2) by omega, f0, f2, show 60 * a + (3 * i + 2) = 60 * a + 3 * i + 2 by omega]
  exact F i hi
theorem row_b {h : pm_H} (hh : HH h) {r : Nat} (hr : r ≤ 4) : gn h 84 (6 * r + 3) ≤ 8 ∧ gn h 84 (6 * r + 5) ≤ 20 := by
  have h3 : bd 84 (6 * r + 3) = some (0, 8) := bd_pat (p := [(0, 8), (0, 3), (0, 10), (0, 8), (0, 8), (0, 20)]) rfl (by omega) (by show [(0, 8), (0, 3), (0, 10), (0, 8), (0, 8), (0, 20)][(6 * r + 3) % 6]? = _; rw [show (6 * r + 3) % 6 = 3 by omega]; rfl)
  have h5 : bd 84 (6 * r + 5) = some (0, 20) := bd_pat (p := [(0, 8), (0, 3), (0, 10), (0, 8), (0, 8), (0, 20)]) rfl (by omega) (by show [(0, 8), (0, 3), (0, 10), (0, 8), (0, 8), (0, 20)][(6 * r + 5) % 6]? = _; rw [show (6 * r + 5) % 6 = 5 by omega]; rfl)
  exact ⟨gn_hi hh h3 (by decide), gn_hi hh h5 (by decide)⟩
/-- rows that stay -/
theorem RV_hi {h h' : pm_H} (hh : HH h) (h1 : ∀ k, k < 24 → gn h' 84 k = gn h 84 k) (h2 : ∀ k, k < 64 → gn h' 85 k = gn h 85 k) (h3 : ∀ k, gn h' 87 k = gn h 87 k) (V : RV h) : RV h' :=
  ⟨fun r hr => RI_copy (row_b hh (by omega)).1 (row_b hh (by omega)).2 (fun k hk => h1 _ (by omega)) (fun k hk => h2 _ (by omega)) (fun k _ => h3 _) (V.1 r hr), fun r hr => FAg_copy (fun k _ => h3 _) (V.2 r hr)⟩
theorem bd_no {a k : Nat} (h : (bd a k).isSome = true) : ∃ q, bd a k = some q := by
  cases hb : bd a k with
  | none => rw [hb] at h; cases h
  | some q => exact ⟨q, rfl⟩
theorem bdc_83 : ∀ a b : Fin 5, ∀ k : Fin 1, bd 83 (1 * b.val + k.val) = bd 83 (1 * a.val + k.val) ∧ (bd 83 (1 * a.val + k.val)).isSome = true := by decide +kernel
theorem cr_loop83 {h0 : pm_H} {d a b : Nat} (hh0 : HH h0) (ha : a ≤ 4) (hb : b ≤ 4) (hab : a ≠ b) (j : Nat) : ∀ {h : pm_H} {k : Nat} (lv : List (Nat × Value)), k + j = 1 → HH h → fr_g [(83, 0, 4)] h0 h → (∀ k1, k1 < k → gi h 83 (1 * b + k1) = gi h0 83 (1 * a + k1)) → (∀ j, (j < 1 * b ∨ 1 * b + 1 ≤ j) → gi h 83 j = gi h0 83 j) → pm_get lv 0 = some (.ref 83) → pm_get lv 1 = some (.int (nJ 1)) → pm_get lv 2 = some (.int (nJ a)) → pm_get lv 3 = some (.int (nJ b)) → pm_get lv 4 = some (.int (nJ k)) → Ends (pm_at tX9_copyRow) (pm_Rt pm_P d) (3, lv, [], h, 0, 0) (fun h' r => r = none ∧ HH h' ∧ fr_g [(83, 0, 4)] h0 h' ∧ (∀ k, k < 1 → gi h' 83 (1 * b + k) = gi h0 83 (1 * a + k)) ∧ ∀ j, (j < 1 * b ∨ 1 * b + 1 ≤ j) → gi h' 83 j = gi h0 83 j) := by
  induction j with
  | zero =>
    intro h k lv hj hh hfr hc ho L0 L1 L2 L3 L4
    refine E_il rfl L4 ?_
    refine E_il rfl L1 ?_
    refine E_icT rfl (decide_eq_true ((nJ_le (by omega) (by omega)).mpr (by omega))) ?_
    exact E_ret rfl ⟨rfl, hh, hfr, fun k1 h1 => hc k1 (by omega), ho⟩
  | succ j ih =>
    intro h k lv hj hh hfr hc ho L0 L1 L2 L3 L4
    refine E_il rfl L4 ?_
    refine E_il rfl L1 ?_
    refine E_icF rfl (decide_eq_false (fun q => absurd ((nJ_le (by omega) (by omega)).mp q) (by omega))) ?_
    obtain ⟨q, hq⟩ := bd_no (bdc_83 ⟨a, by omega⟩ ⟨b, by omega⟩ ⟨k, by omega⟩).2
    have hq2 : bd 83 (1 * b + k) = some q := (bdc_83 ⟨a, by omega⟩ ⟨b, by omega⟩ ⟨k, by omega⟩).1.trans hq
    have hv := (ld_gi hh0 hq).2
    refine E_al rfl L0 ?_
    refine E_il rfl L1 ?_
    refine E_il rfl L3 ?_
    refine E_bin rfl (nJ_mul _ _) ?_
    refine E_il rfl L4 ?_
    refine E_bin rfl (nJ_add _ _) ?_
    refine E_al rfl L0 ?_
    refine E_il rfl L1 ?_
    refine E_il rfl L2 ?_
    refine E_bin rfl (nJ_mul _ _) ?_
    refine E_il rfl L4 ?_
    refine E_bin rfl (nJ_add _ _) ?_
    refine E_ial rfl hh rfl (by omega) (by decide) (show gi h 83 (((1 * a) + k)) = (gi h0 83 (1 * a + k)) from ho _ (by omega)) ?_
    refine E_ias rfl hh rfl (by omega) (by decide) ?_
    have hh1 : HH (pt h 83 (((1 * b) + k)) (gi h0 83 (1 * a + k))) := HH_pt hh hq2 hv.1 hv.2
    refine E_inc rfl L4 (nJ_inc _) (fun lv2 L2_4 kp2 => ?_)
    have L2_0 := kp2 0 _ (nbz rfl) rfl L0
    have L2_1 := kp2 1 _ (nbz rfl) rfl L1
    have L2_2 := kp2 2 _ (nbz rfl) rfl L2
    have L2_3 := kp2 3 _ (nbz rfl) rfl L3
    refine E_goto rfl ?_
    refine ih lv2 (by omega) hh1 (fr_ptr (l := 0) (u := 4) rfl (by omega) (by omega) hfr) (fun k1 h1 => ?_) (fun j1 h1 => ?_) L2_0 L2_1 L2_2 L2_3 L2_4
    · by_cases e : k1 = k
      · rw [e]; exact gi_pt hh hq2 hv.1 hv.2
      · rw [gi_ne (fun _ => by omega)]; exact hc k1 (by omega)
    · rw [gi_ne (fun _ => by omega)]; exact ho j1 h1
theorem sp_copyRow83 {h0 : pm_H} {d a b : Nat} (hh : HH h0) (ha : a ≤ 4) (hb : b ≤ 4) (hab : a ≠ b) : Sp (d + 1) 231 h0 [.ref 83, .int (nJ 1), .int (nJ a), .int (nJ b)] (fun h' r => r = none ∧ HH h' ∧ fr_g [(83, 0, 4)] h0 h' ∧ (∀ k, k < 1 → gi h' 83 (1 * b + k) = gi h0 83 (1 * a + k)) ∧ ∀ j, (j < 1 * b ∨ 1 * b + 1 ≤ j) → gi h' 83 j = gi h0 83 j) := by
  refine Sp_of aiX9_copyRow rfl rfl rfl ?_
  refine E_ci 0 rfl ci0 ?_
  refine E_is rfl (fun lv1 L1_4 kp1 => ?_)
  have L1_0 := kp1 0 _ (nbz rfl) rfl (show pm_get (lv_args 0 [.ref 83, .int (nJ 1), .int (nJ a), .int (nJ b)]) 0 = _ from rfl)
  have L1_1 := kp1 1 _ (nbz rfl) rfl (show pm_get (lv_args 0 [.ref 83, .int (nJ 1), .int (nJ a), .int (nJ b)]) 1 = _ from rfl)
  have L1_2 := kp1 2 _ (nbz rfl) rfl (show pm_get (lv_args 0 [.ref 83, .int (nJ 1), .int (nJ a), .int (nJ b)]) 2 = _ from rfl)
  have L1_3 := kp1 3 _ (nbz rfl) rfl (show pm_get (lv_args 0 [.ref 83, .int (nJ 1), .int (nJ a), .int (nJ b)]) 3 = _ from rfl)
  exact cr_loop83 hh ha hb hab 1 (k := 0) lv1 (by omega) hh (fr_rf _ _) (fun k1 h1 => absurd h1 (Nat.not_lt_zero _)) (fun _ _ => rfl) L1_0 L1_1 L1_2 L1_3 L1_4
theorem bdc_84 : ∀ a b : Fin 5, ∀ k : Fin 6, bd 84 (6 * b.val + k.val) = bd 84 (6 * a.val + k.val) ∧ (bd 84 (6 * a.val + k.val)).isSome = true := by decide +kernel
theorem cr_loop84 {h0 : pm_H} {d a b : Nat} (hh0 : HH h0) (ha : a ≤ 4) (hb : b ≤ 4) (hab : a ≠ b) (j : Nat) : ∀ {h : pm_H} {k : Nat} (lv : List (Nat × Value)), k + j = 6 → HH h → fr_g [(84, 0, 29)] h0 h → (∀ k1, k1 < k → gi h 84 (6 * b + k1) = gi h0 84 (6 * a + k1)) → (∀ j, (j < 6 * b ∨ 6 * b + 6 ≤ j) → gi h 84 j = gi h0 84 j) → pm_get lv 0 = some (.ref 84) → pm_get lv 1 = some (.int (nJ 6)) → pm_get lv 2 = some (.int (nJ a)) → pm_get lv 3 = some (.int (nJ b)) → pm_get lv 4 = some (.int (nJ k)) → Ends (pm_at tX9_copyRow) (pm_Rt pm_P d) (3, lv, [], h, 0, 0) (fun h' r => r = none ∧ HH h' ∧ fr_g [(84, 0, 29)] h0 h' ∧ (∀ k, k < 6 → gi h' 84 (6 * b + k) = gi h0 84 (6 * a + k)) ∧ ∀ j, (j < 6 * b ∨ 6 * b + 6 ≤ j) → gi h' 84 j = gi h0 84 j) := by
  induction j with
  | zero =>
    intro h k lv hj hh hfr hc ho L0 L1 L2 L3 L4
    refine E_il rfl L4 ?_
    refine E_il rfl L1 ?_
    refine E_icT rfl (decide_eq_true ((nJ_le (by omega) (by omega)).mpr (by omega))) ?_
    exact E_ret rfl ⟨rfl, hh, hfr, fun k1 h1 => hc k1 (by omega), ho⟩
  | succ j ih =>
    intro h k lv hj hh hfr hc ho L0 L1 L2 L3 L4
    refine E_il rfl L4 ?_
    refine E_il rfl L1 ?_
    refine E_icF rfl (decide_eq_false (fun q => absurd ((nJ_le (by omega) (by omega)).mp q) (by omega))) ?_
    obtain ⟨q, hq⟩ := bd_no (bdc_84 ⟨a, by omega⟩ ⟨b, by omega⟩ ⟨k, by omega⟩).2
    have hq2 : bd 84 (6 * b + k) = some q := (bdc_84 ⟨a, by omega⟩ ⟨b, by omega⟩ ⟨k, by omega⟩).1.trans hq
    have hv := (ld_gi hh0 hq).2
    refine E_al rfl L0 ?_
    refine E_il rfl L1 ?_
    refine E_il rfl L3 ?_
    refine E_bin rfl (nJ_mul _ _) ?_
    refine E_il rfl L4 ?_
    refine E_bin rfl (nJ_add _ _) ?_
    refine E_al rfl L0 ?_
    refine E_il rfl L1 ?_
    refine E_il rfl L2 ?_
    refine E_bin rfl (nJ_mul _ _) ?_
    refine E_il rfl L4 ?_
    refine E_bin rfl (nJ_add _ _) ?_
    refine E_ial rfl hh rfl (by omega) (by decide) (show gi h 84 (((6 * a) + k)) = (gi h0 84 (6 * a + k)) from ho _ (by omega)) ?_
    refine E_ias rfl hh rfl (by omega) (by decide) ?_
    have hh1 : HH (pt h 84 (((6 * b) + k)) (gi h0 84 (6 * a + k))) := HH_pt hh hq2 hv.1 hv.2
    refine E_inc rfl L4 (nJ_inc _) (fun lv2 L2_4 kp2 => ?_)
    have L2_0 := kp2 0 _ (nbz rfl) rfl L0
    have L2_1 := kp2 1 _ (nbz rfl) rfl L1
    have L2_2 := kp2 2 _ (nbz rfl) rfl L2
    have L2_3 := kp2 3 _ (nbz rfl) rfl L3
    refine E_goto rfl ?_
    refine ih lv2 (by omega) hh1 (fr_ptr (l := 0) (u := 29) rfl (by omega) (by omega) hfr) (fun k1 h1 => ?_) (fun j1 h1 => ?_) L2_0 L2_1 L2_2 L2_3 L2_4
    · by_cases e : k1 = k
      · rw [e]; exact gi_pt hh hq2 hv.1 hv.2
      · rw [gi_ne (fun _ => by omega)]; exact hc k1 (by omega)
    · rw [gi_ne (fun _ => by omega)]; exact ho j1 h1
end
