section
/-! street of class and reference: what they answer and leave (wants t50, t51, t52) -/
noncomputable def stv (R : Px × Nat × Sg) : Int32 := match R.1 with
  | .inl _ => -4
  | .inr _ => nJ R.2.1
/-- the class's street -/
noncomputable def C0 (n : Nat) (σ : Sg) (h : pm_H) : Prop := gi h 15 0 = nJ σ.1.1 ∧ gi h 15 1 = nJ σ.1.2.1 ∧ gi h 15 2 = nJ σ.1.2.2 ∧ gi h 15 3 = nJ n ∧ gi h 15 4 = nJ σ.2.1.1 ∧ gi h 15 5 = nJ σ.2.2.1 ∧ gi h 15 6 = nJ 0 ∧ (∀ i, i < 8 → i < σ.2.1.1 → gi h 16 i = nJ (σ.2.1.2.1 i) ∧ gi h 17 i = nJ (σ.2.1.2.1 i) ∧ gi h 18 i = nJ (σ.2.1.2.2 i)) ∧ (∀ i, i < 8 → i < σ.2.2.1 → gi h 19 i = nJ (σ.2.2.2.1 i) ∧ gi h 20 i = nJ (σ.2.2.2.2 i))
/-- the reference's street -/
noncomputable def R0 (n : Nat) (σ : Sg) (h : pm_H) : Prop := gi h 83 0 = nJ n ∧ gi h 84 0 = nJ σ.1.1 ∧ gi h 84 1 = nJ σ.1.2.1 ∧ gi h 84 2 = nJ σ.1.2.2 ∧ gi h 84 3 = nJ σ.2.1.1 ∧ gi h 84 4 = nJ σ.2.2.1 ∧ gi h 84 5 = nJ 0 ∧ (∀ i, i < 8 → i < σ.2.1.1 → gi h 85 (2 * i) = nJ (σ.2.1.2.1 i) ∧ gi h 85 (2 * i + 1) = nJ (σ.2.1.2.2 i)) ∧ (∀ i, i < 8 → i < σ.2.2.1 → gi h 86 (2 * i) = nJ (σ.2.2.2.1 i) ∧ gi h 86 (2 * i + 1) = nJ (σ.2.2.2.2 i))
noncomputable def CP9 (b a : Nat) (h h' : pm_H) : Prop := gi h' 83 b = gi h 83 a ∧ (∀ k, k < 6 → gi h' 84 (6 * b + k) = gi h 84 (6 * a + k)) ∧ (∀ i, i < 16 → gi h' 85 (16 * b + i) = gi h 85 (16 * a + i)) ∧ (∀ i, i < 16 → gi h' 86 (16 * b + i) = gi h 86 (16 * a + i)) ∧ ∀ i, i < 60 → gi h' 87 (60 * b + i) = gi h 87 (60 * a + i)
noncomputable def KE9 (r : Nat) (h h' : pm_H) : Prop := gi h' 83 r = gi h 83 r ∧ (∀ k, k < 6 → gi h' 84 (6 * r + k) = gi h 84 (6 * r + k)) ∧ (∀ i, i < 16 → gi h' 85 (16 * r + i) = gi h 85 (16 * r + i)) ∧ (∀ i, i < 16 → gi h' 86 (16 * r + i) = gi h 86 (16 * r + i)) ∧ ∀ i, i < 60 → gi h' 87 (60 * r + i) = gi h 87 (60 * r + i)
noncomputable def S8F : List Rng := (1, 1, 1) :: RtF
noncomputable def S8Q (R : Px × Nat × Sg) (h0 h' : pm_H) (r : Option Value) : Prop := r = some (.int (stv R)) ∧ HH h' ∧ gi h' 1 1 = nJ 0 ∧ gi h' 3 1 = nJ (pxk R.1) ∧ gi h' 3 2 = pxp R.1 ∧ (isR R.1 = true → C0 R.2.1 R.2.2 h') ∧ (isR R.1 = false → fr_g S8F h0 h')
noncomputable def S9Q (R : Px × Nat × Sg) (h0 h' : pm_H) (r : Option Value) : Prop := r = some (.int (stv R)) ∧ HH h' ∧ gi h' 77 6 = nJ 0 ∧ gi h' 77 14 = nJ (pxk R.1) ∧ gi h' 77 15 = pxp R.1 ∧ (isR R.1 = true → R0 R.2.1 R.2.2 h') ∧ (isR R.1 = false → fr_g STM h0 h') ∧ ∀ r, r ≤ 3 → 1 ≤ r → KE9 r h0 h'
theorem KE9_st {h0 h : pm_H} (F : fr_g STM h0 h) : ∀ r, r ≤ 3 → KE9 r h0 h := fun r hr => ⟨fr_gi F (rg_dis_in (l := 0) (u := 3) rfl (Nat.zero_le _) hr), fun k hk => fr_gi F (rg_dis_in (l := 0) (u := 23) rfl (Nat.zero_le _) (by omega)), fun k hk => fr_gi F (rg_dis_in (l := 0) (u := 63) rfl (Nat.zero_le _) (by omega)), fun k hk => fr_gi F (rg_dis_in (l := 0) (u := 63) rfl (Nat.zero_le _) (by omega)), fun k hk => fr_gi F (rg_no rfl _)⟩
section STS
variable {T : Nat → Int32} {L d : Nat} {h : pm_H}
theorem sp_street8 (A : TA T L h) : Sp (d + 10) 185 h [.ref 0] (S8Q (PRS T L) h) := by
  have hh : HH h := A.1
  refine Sp_of aiX8_street rfl rfl rfl ?_
  have L0 : pm_get (lv_args 0 [.ref 0]) 0 = some (.ref 0) := rfl
  generalize lv_args 0 [.ref 0] = lv at L0 ⊢
  refine E_al rfl L0 ?_
  refine E_ogr (q := 3) rfl hh rfl rfl ?_
  refine E_call rfl (sp_readTape (d := d) A) (chkO (a := 3) hh rfl rfl rfl rfl (by show 0 ≤ 8; decide)) (fun h1 r1 => ?_)
  rintro ⟨e1, f1, C1, D1⟩
  rw [e1]
  generalize PRS T L = R at C1 D1 ⊢
  have hh1 : HH h1 := (CS_TA C1).1
  refine E_al rfl L0 ?_
  refine E_ogr (q := 1) rfl hh1 rfl rfl ?_
  refine E_ci 0 rfl (by decide) ?_
  refine E_opf (q := (0, 500)) rfl hh1 rfl rfl ?_
  have hh2 : HH (pt h1 1 1 (nJ 0)) := HH_ptn hh1 rfl (by omega) (by omega) (by omega)
  have g2 : gi (pt h1 1 1 (nJ 0)) 1 1 = nJ 0 := gi_ptn hh1 rfl (by omega) (by omega) (by omega)
  have o2 : ∀ a k, 3 ≤ a → gi (pt h1 1 1 (nJ 0)) a k = gi h1 a k := fun a k ha => gi_ne (by omega)
  have F2 : fr_g S8F h (pt h1 1 1 (nJ 0)) := fr_ptr (l := 1) (u := 1) rfl (by omega) (by omega) (fr_wk rfl f1)
  generalize pt h1 1 1 (nJ 0) = h2 at hh2 g2 o2 F2 ⊢
  refine E_al rfl L0 ?_
  refine E_ogr (q := 3) rfl hh2 rfl rfl ?_
  obtain ⟨x, n, σ⟩ := R
  match x, C1, D1 with
  | .inl (k, p), C1, D1 =>
    refine E_ogf (q := (0, 3)) (v := nJ k) rfl hh2 rfl rfl (by rw [o2 _ _ (by omega)]; exact C1.2.1) ?_
    have k1 := C1.2.2.2.1
    have k3 := C1.2.2.2.2.1
    refine E_ifF rfl (decide_eq_false (fun z => absurd ((nJ_eq0 (by omega)).mp z) (by omega))) ?_
    refine E_c rfl ?_
    exact E_rti rfl ⟨rfl, hh2, g2, by rw [o2 _ _ (by omega)]; exact C1.2.1, by rw [o2 _ _ (by omega)]; exact C1.2.2.1, (fun q => by cases q), fun _ => F2⟩
  | .inr s, C1, D1 =>
    obtain ⟨q0, q1, q2, q3, q4, q5, q6, qc, qj, -⟩ := D1 rfl
    refine E_ogf (q := (0, 3)) (v := nJ 0) rfl hh2 rfl rfl (by rw [o2 _ _ (by omega)]; exact C1.2.2.1) ?_
    refine E_ifT rfl (by decide) ?_
    refine E_al rfl L0 ?_
    refine E_ogr (q := 15) rfl hh2 rfl rfl ?_
    refine E_al rfl L0 ?_
    refine E_ogr (q := 3) rfl hh2 rfl rfl ?_
    refine E_ogr (q := 4) rfl hh2 rfl rfl ?_
    refine E_call rfl (Sp_le (by omega) (sp_take_15_4 (d := d) hh2)) (chkO (a := 15) hh2 rfl rfl rfl rfl (by show 0 ≤ 8; decide)) (fun h3 r3 => ?_)
    rintro ⟨e3, hh3, f3, t0, t1, t2⟩
    rw [e3]
    have z : ∀ k, k < 7 → gi h3 15 k = gi h1 4 k := fun k hk => by rw [t0 k hk, o2 _ _ (by omega)]
    refine E_al rfl L0 ?_
    refine E_ogr (q := 15) rfl hh3 rfl rfl ?_
    refine E_ogf (v := nJ n) rfl hh3 rfl rfl (by rw [z 3 (by omega)]; exact q3) ?_
    refine E_rti rfl ⟨rfl, hh3, by rw [fr_gi f3 rfl]; exact g2, by rw [fr_gi f3 rfl, o2 _ _ (by omega)]; exact C1.2.2.1, by rw [fr_gi f3 rfl, o2 _ _ (by omega)]; exact C1.2.2.2.1, fun _ => ?_, fun q => by cases q⟩
    refine ⟨by rw [z 0 (by omega)]; exact q0, by rw [z 1 (by omega)]; exact q1, by rw [z 2 (by omega)]; exact q2, by rw [z 3 (by omega)]; exact q3, by rw [z 4 (by omega)]; exact q4, by rw [z 5 (by omega)]; exact q5, by rw [z 6 (by omega)]; exact q6, fun i i8 hi => ?_, fun i i8 hi => ?_⟩
    · obtain ⟨a1, a2, a3, a4, a5⟩ := t1 i i8
      have q := qc i hi
      rw [a1, a2, a3, o2 _ _ (by omega), o2 _ _ (by omega), o2 _ _ (by omega)]
      exact q
    · obtain ⟨a1, a2, a3, a4, a5⟩ := t1 i i8
      have q := qj i hi
      rw [a4, a5, o2 _ _ (by omega), o2 _ _ (by omega)]
      exact q
theorem sp_cpY {a b : Nat} (hh0 : HH h) (ha : a ≤ 4) (hb : b ≤ 4) (hab : a ≠ b) : Sp (d + 2) 232 h [.ref 77, .int (nJ a), .int (nJ b)] (fun h' r => r = none ∧ HH h' ∧ fr_g VC h h' ∧ CP9 b a h h' ∧ ∀ r, r ≤ 4 → r ≠ b → KE9 r h h') := by
  refine Sp_of aiX9_copyStreet rfl rfl rfl ?_
  have L0 : pm_get (lv_args 0 [.ref 77, .int (nJ a), .int (nJ b)]) 0 = some (.ref 77) := rfl
  have L1 : pm_get (lv_args 0 [.ref 77, .int (nJ a), .int (nJ b)]) 1 = some (.int (nJ a)) := rfl
  have L2 : pm_get (lv_args 0 [.ref 77, .int (nJ a), .int (nJ b)]) 2 = some (.int (nJ b)) := rfl
  generalize lv_args 0 [.ref 77, .int (nJ a), .int (nJ b)] = lv at L0 L1 L2 ⊢
  refine E_al rfl L0 ?_
  refine E_gr rfl hh0 (q := 83) rfl ?_
  refine E_ci 1 rfl (by decide) ?_
  refine E_il rfl L1 ?_
  refine E_il rfl L2 ?_
  refine E_call rfl (Sp_le (by omega) (sp_copyRow83 (d := d) hh0 ha hb hab)) (chkS rfl (by show 0 ≤ 8; decide)) (fun h1 r1 => ?_)
  rintro ⟨e1, hh1, f1, c1, o1⟩
  rw [e1]
  refine E_al rfl L0 ?_
  refine E_gr rfl hh1 (q := 84) rfl ?_
  refine E_ci 6 rfl (by decide) ?_
  refine E_il rfl L1 ?_
  refine E_il rfl L2 ?_
  refine E_call rfl (Sp_le (by omega) (sp_copyRow84 (d := d) hh1 ha hb hab)) (chkS rfl (by show 0 ≤ 8; decide)) (fun h2 r2 => ?_)
  rintro ⟨e2, hh2, f2, c2, o2⟩
  rw [e2]
  refine E_al rfl L0 ?_
  refine E_gr rfl hh2 (q := 85) rfl ?_
  refine E_ci 16 rfl (by decide) ?_
  refine E_il rfl L1 ?_
  refine E_il rfl L2 ?_
  refine E_call rfl (Sp_le (by omega) (sp_copyRow85 (d := d) hh2 ha hb hab)) (chkS rfl (by show 0 ≤ 8; decide)) (fun h3 r3 => ?_)
  rintro ⟨e3, hh3, f3, c3, o3⟩
  rw [e3]
  refine E_al rfl L0 ?_
  refine E_gr rfl hh3 (q := 86) rfl ?_
  refine E_ci 16 rfl (by decide) ?_
  refine E_il rfl L1 ?_
  refine E_il rfl L2 ?_
  refine E_call rfl (Sp_le (by omega) (sp_copyRow86 (d := d) hh3 ha hb hab)) (chkS rfl (by show 0 ≤ 8; decide)) (fun h4 r4 => ?_)
  rintro ⟨e4, hh4, f4, c4, o4⟩
  rw [e4]
  refine E_al rfl L0 ?_
  refine E_gr rfl hh4 (q := 87) rfl ?_
  refine E_ci 60 rfl (by decide) ?_
  refine E_il rfl L1 ?_
  refine E_il rfl L2 ?_
  refine E_call rfl (Sp_le (by omega) (sp_copyRow87 (d := d) hh4 ha hb hab)) (chkS rfl (by show 0 ≤ 8; decide)) (fun h5 r5 => ?_)
  rintro ⟨e5, hh5, f5, c5, o5⟩
  rw [e5]
  have g3 : ∀ k, gi h5 83 k = gi h1 83 k := fun k => by rw [fr_gi f5 (rg_no rfl _), fr_gi f4 (rg_no rfl _), fr_gi f3 (rg_no rfl _), fr_gi f2 (rg_no rfl _)]
  have g4 : ∀ k, gi h5 84 k = gi h2 84 k := fun k => by rw [fr_gi f5 (rg_no rfl _), fr_gi f4 (rg_no rfl _), fr_gi f3 (rg_no rfl _)]
  have g4b : ∀ k, gi h1 84 k = gi h 84 k := fun k => fr_gi f1 (rg_no rfl _)
  have g5 : ∀ k, gi h5 85 k = gi h3 85 k := fun k => by rw [fr_gi f5 (rg_no rfl _), fr_gi f4 (rg_no rfl _)]
  have g5b : ∀ k, gi h2 85 k = gi h 85 k := fun k => by rw [fr_gi f2 (rg_no rfl _), fr_gi f1 (rg_no rfl _)]
  refine E_ret rfl ⟨rfl, hh5, fr_trans (fr_wk rfl f1) (fr_trans (fr_wk rfl f2) (fr_trans (fr_wk rfl f3) (fr_trans (fr_wk rfl f4) (fr_wk rfl f5)))), ⟨?_, fun k hk => ?_, fun k hk => ?_, fun k hk => ?_, fun k hk => ?_⟩, fun r hr hne => ⟨?_, fun k hk => ?_, fun k hk => ?_, fun k hk => ?_, fun k hk => ?_⟩⟩
  · have := c1 0 (by omega)
    rw [show 1 * b + 0 = b by omega, show 1 * a + 0 = a by omega] at this
    rw [g3]; exact this
  · rw [g4, c2 k hk, g4b]
  · rw [g5, c3 k hk, g5b]
  · rw [fr_gi f5 (rg_no rfl _), c4 k hk, fr_gi f3 (rg_no rfl _), fr_gi f2 (rg_no rfl _), fr_gi f1 (rg_no rfl _)]
  · rw [c5 k hk, fr_gi f4 (rg_no rfl _), fr_gi f3 (rg_no rfl _), fr_gi f2 (rg_no rfl _), fr_gi f1 (rg_no rfl _)]
  · rw [g3]; exact o1 r (by omega)
  · rw [g4, o2 _ (by omega), g4b]
  · rw [g5, o3 _ (by omega), g5b]
  · rw [fr_gi f5 (rg_no rfl _), o4 _ (by omega), fr_gi f3 (rg_no rfl _), fr_gi f2 (rg_no rfl _), fr_gi f1 (rg_no rfl _)]
  · rw [o5 _ (by omega), fr_gi f4 (rg_no rfl _), fr_gi f3 (rg_no rfl _), fr_gi f2 (rg_no rfl _), fr_gi f1 (rg_no rfl _)]
theorem s9_end {h0 : pm_H} {x : Px} {n : Nat} {σ : Sg} (lv : List (Nat × Value)) (R : RSt T L x h) (D : isR x = true → RDr σ h ∧ gi h 83 4 = nJ n) (F : fr_g STM h0 h) (L0 : pm_get lv 0 = some (.ref 77)) : Ends (pm_at tX9_street) (pm_Rt pm_P (d + 10)) (118, lv, [], h, 0, 0) (S9Q (x, n, σ) h0) := by
  have hh : HH h := (RSt_TB R).1
  refine E_al rfl L0 ?_
  refine E_call rfl (Sp_le (by omega) (sp_ov (d := d) R)) (chk77 hh rfl rfl (by show 0 ≤ 8; decide)) (fun h1 r1 => ?_)
  rintro ⟨e1, hh1, f1, g6, g14, g15⟩
  rw [e1]
  have F1 : fr_g STM h0 h1 := fr_trans F (fr_wk rfl f1)
  refine E_al rfl L0 ?_
  match x, R, D, g14, g15 with
  | .inl (k, p), R, D, g14, g15 =>
    refine E_gf (q := (0, 3)) (v := nJ k) rfl hh1 rfl (by rw [fr_gi f1 rfl]; exact R.2.1) ?_
    have k1 := R.2.2.2.1
    have k3 := R.2.2.2.2.1
    refine E_ifF rfl (decide_eq_false (fun z => absurd ((nJ_eq0 (by omega)).mp z) (by omega))) ?_
    refine E_c rfl ?_
    exact E_rti rfl ⟨rfl, hh1, g6, g14, g15, (fun q => by cases q), fun _ => F1, fun r hr _ => KE9_st F1 r hr⟩
  | .inr s, R, D, g14, g15 =>
    obtain ⟨D, gn4⟩ := D rfl
    refine E_gf (q := (0, 3)) (v := nJ 0) rfl hh1 rfl (by rw [fr_gi f1 rfl]; exact R.2.2.1) ?_
    refine E_ifT rfl (by decide) ?_
    refine E_al rfl L0 ?_
    refine E_ci 4 rfl (by decide) ?_
    refine E_ci 0 rfl (by decide) ?_
    refine E_call rfl (Sp_le (by omega) (sp_cpY (d := d) (a := 4) (b := 0) hh1 (by omega) (by omega) (by omega))) (chk77 hh1 rfl rfl (by show 0 ≤ 8; decide)) (fun h2 r2 => ?_)
    rintro ⟨e2, hh2, f2, ⟨c3, c4, c5, c6, c7⟩, ke⟩
    rw [e2]
    have gl0 : gi h2 83 0 = nJ n := by rw [c3, fr_gi f1 (rg_no rfl _)]; exact gn4
    refine E_al rfl L0 ?_
    refine E_gr rfl hh2 (q := 83) rfl ?_
    refine E_ci 0 rfl (by decide) ?_
    refine E_ial rfl hh2 rfl (by omega) (by decide) gl0 ?_
    obtain ⟨q0, q1, q2, q3, q4, q5, qc, qj⟩ := D
    have z4 : ∀ k, k < 6 → gi h2 84 k = gi h 84 (24 + k) := fun k hk => by
      have := c4 k hk
      rw [show 6 * 0 + k = k by omega, show 6 * 4 + k = 24 + k by omega, fr_gi f1 (rg_no rfl _)] at this
      exact this
    have z5 : ∀ k, k < 16 → gi h2 85 k = gi h 85 (64 + k) := fun k hk => by
      have := c5 k hk
      rw [show 16 * 0 + k = k by omega, show 16 * 4 + k = 64 + k by omega, fr_gi f1 (rg_no rfl _)] at this
      exact this
    have z6 : ∀ k, k < 16 → gi h2 86 k = gi h 86 (64 + k) := fun k hk => by
      have := c6 k hk
      rw [show 16 * 0 + k = k by omega, show 16 * 4 + k = 64 + k by omega, fr_gi f1 (rg_no rfl _)] at this
      exact this
    refine E_rti rfl ⟨rfl, hh2, by rw [fr_gi f2 (rg_no rfl _)]; exact g6, by rw [fr_gi f2 (rg_no rfl _)]; exact g14, by rw [fr_gi f2 (rg_no rfl _)]; exact g15, fun _ => ?_, (fun q => by cases q), fun r hr h1r => ?_⟩
    rotate_left
    · have k1 := KE9_st F1 r hr
      have k2 := ke r (by omega) (by omega)
      exact ⟨by rw [k2.1, k1.1], fun k hk => by rw [k2.2.1 k hk, k1.2.1 k hk], fun k hk => by rw [k2.2.2.1 k hk, k1.2.2.1 k hk], fun k hk => by rw [k2.2.2.2.1 k hk, k1.2.2.2.1 k hk], fun k hk => by rw [k2.2.2.2.2 k hk, k1.2.2.2.2 k hk]⟩
    refine ⟨gl0, by rw [z4 0 (by omega)]; exact q0, by rw [z4 1 (by omega)]; exact q1, by rw [z4 2 (by omega)]; exact q2, by rw [z4 3 (by omega)]; exact q3, by rw [z4 4 (by omega)]; exact q4, by rw [z4 5 (by omega)]; exact q5, fun i i8 hi => ?_, fun i i8 hi => ?_⟩
    · have q := qc i hi
      rw [z5 _ (by omega), z5 _ (by omega), show 64 + (2 * i + 1) = 64 + 2 * i + 1 by omega]
      exact q
    · have q := qj i hi
      rw [z6 _ (by omega), z6 _ (by omega), show 64 + (2 * i + 1) = 64 + 2 * i + 1 by omega]
      exact q
end STS
end
