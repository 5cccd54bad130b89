section
noncomputable def RES (h : pm_H) : Prop := REL h ∧ SL h
noncomputable def IVS (h : pm_H) : Prop := IVh h ∧ RES h
noncomputable def slB (M : List Rng) : Bool := (M.all (fun r => !(Nat.beq r.1 54)) && M.all (fun r => !(Nat.beq r.1 56))) && ((M.all (fun r => !(Nat.beq r.1 58)) && M.all (fun r => !(Nat.beq r.1 60))) && (M.all (fun r => !(Nat.beq r.1 78)) && M.all (fun r => !(Nat.beq r.1 79))))
noncomputable def resB (M : List Rng) : Bool := relB M && slB M
theorem SL1_eq {h h' : pm_H} {s : Nat} (e1 : gi h' (54 + 2 * s) 1 = gi h (54 + 2 * s) 1) (e2 : gi h' (54 + 2 * s) 2 = gi h (54 + 2 * s) 2) (e3 : gi h' (54 + 2 * s) 3 = gi h (54 + 2 * s) 3) (e4 : gi h' 78 s = gi h 78 s) (e5 : gi h' 79 s = gi h 79 s) (S : SL1 s h) : SL1 s h' := by
  unfold SL1
  rw [e1, e2, e3, e4, e5]
  exact S
theorem slB_at {M : List Rng} (hb : slB M = true) : ∀ s, s < 4 → M.all (fun r => !(Nat.beq r.1 (54 + 2 * s))) = true := by
  unfold slB at hb
  simp only [Bool.and_eq_true] at hb
  intro s hs
  match s, hs with
  | 0, _ => exact hb.1.1
  | 1, _ => exact hb.1.2
  | 2, _ => exact hb.2.1.1
  | 3, _ => exact hb.2.1.2
theorem slB_r {M : List Rng} (hb : slB M = true) : M.all (fun r => !(Nat.beq r.1 78)) = true ∧ M.all (fun r => !(Nat.beq r.1 79)) = true := by
  unfold slB at hb
  simp only [Bool.and_eq_true] at hb
  exact hb.2.2
theorem SL_fr {M : List Rng} {h h' : pm_H} (hf : fr_g M h h') (hb : slB M = true) (S : SL h) : SL h' := by
  intro s hs
  have c1 := slB_at hb s hs
  have c2 := slB_r hb
  exact SL1_eq (fr_gi hf (rg_no c1 _)) (fr_gi hf (rg_no c1 _)) (fr_gi hf (rg_no c1 _)) (fr_gi hf (rg_no c2.1 _)) (fr_gi hf (rg_no c2.2 _)) (S s hs)
theorem RES_fr {M : List Rng} {h h' : pm_H} (hf : fr_g M h h') (hb : resB M = true) (R : RES h) : RES h' := by
  unfold resB at hb
  rw [Bool.and_eq_true] at hb
  exact ⟨REL_fr hf hb.1 R.1, SL_fr hf hb.2 R.2⟩
theorem IVS_hp0 : IVS hp0 := by
  refine ⟨IVR_hp0.1, IVR_hp0.2, fun s hs => ?_⟩
  match s, hs with
  | 0, _ => exact ⟨by decide +kernel, fun q => absurd (by decide +kernel) q, by decide +kernel⟩
  | 1, _ => exact ⟨by decide +kernel, fun q => absurd (by decide +kernel) q, by decide +kernel⟩
  | 2, _ => exact ⟨by decide +kernel, fun q => absurd (by decide +kernel) q, by decide +kernel⟩
  | 3, _ => exact ⟨by decide +kernel, fun q => absurd (by decide +kernel) q, by decide +kernel⟩
/-- a call that keeps the slots' places, joined to a pair's first half -/
theorem hf_SL {d y : Nat} {h : pm_H} {as : List Value} {M : List Rng} {P : pm_H → Int32 → Prop} {T : pm_H → Option Value → Prop} (hd : d ≤ 100) (hM : slB M = true) (S : SL h) (a : Sp 100 y h as (fun h' r => IVh h' ∧ ∃ x : Int32, r = some (.int x) ∧ P h' x)) (b : Sp d y h as (fun h' r => T h' r ∧ fr_g M h h')) : Sp 100 y h as (fun h' r => IVh h' ∧ ∃ x : Int32, r = some (.int x) ∧ (P h' x ∧ SL h')) :=
  Sp_mono (fun _ _ q => by
    obtain ⟨⟨q1, x, q2, q3⟩, -, q4⟩ := q
    exact ⟨q1, x, q2, q3, SL_fr q4 hM S⟩) (Sp_an a (Sp_le hd b))
/-- the same of a second half -/
theorem hs_SL {d y : Nat} {h : pm_H} {as : List Value} {M : List Rng} {P : Option Value → Prop} {T : pm_H → Option Value → Prop} (hd : d ≤ 100) (hM : slB M = true) (S : SL h) (a : Sp 100 y h as (fun h' r => IVR h' ∧ P r)) (b : Sp d y h as (fun h' r => T h' r ∧ fr_g M h h')) : Sp 100 y h as (fun h' r => IVS h' ∧ P r) :=
  Sp_mono (fun _ _ q => by
    obtain ⟨⟨q1, q2⟩, -, q4⟩ := q
    exact ⟨⟨q1.1, q1.2, SL_fr q4 hM S⟩, q2⟩) (Sp_an a (Sp_le hd b))
theorem tf_all {d : Nat} {S : Sum1} (q : sum_g w0 (pm_Rt pm_P d) S) (hb : topB S = true) {h : pm_H} {as : List Value} (I : IVh h) (ha : f2 cv_g S.2.1 as) : Sp d S.1 h as (fun h' _ => IVh h' ∧ fr_g S.2.2.2.2.1 h h') :=
  Sp_mono (fun _ _ q => ⟨q.1, q.2.1⟩) (top_all q hb I ha)
section OLD
variable {h : pm_H} {x v a b c d e : Int32}
theorem d8_feed (I : IVS h) : Sp 100 106 h [.ref 0, .int a, .int b, .int c, .int d, .int e] (fun h' r => IVh h' ∧ ∃ x : Int32, r = some (.int x) ∧ (half_feed h' x a b c d e ∧ SL h')) :=
  hf_SL (by omega) rfl I.2.2 (c8_feed ⟨I.1, I.2.1⟩) (tf_all (as := [.ref 0, .int a, .int b, .int c, .int d, .int e]) q1 (by decide +kernel) I.1 ⟨rfl, aI _, aI _, aI _, aI _, aI _, trivial⟩)
theorem d9_feed (I : IVh h) (J : half_feed h x a b c d e ∧ SL h) : Sp 100 247 h [.ref 77, .int a, .int b, .int c, .int d, .int e] (fun h' r => IVS h' ∧ r = some (.int x)) :=
  hs_SL (by omega) rfl J.2 (c9_feed I J.1) (tf_all (as := [.ref 77, .int a, .int b, .int c, .int d, .int e]) q7 (by decide +kernel) I ⟨rfl, aI _, aI _, aI _, aI _, aI _, trivial⟩)
theorem d8_end (I : IVS h) : Sp 100 101 h [.ref 0, .int v] (fun h' r => IVh h' ∧ ∃ x : Int32, r = some (.int x) ∧ (half_end h' x v ∧ SL h')) :=
  hf_SL (by omega) rfl I.2.2 (c8_end ⟨I.1, I.2.1⟩) (tf_all (as := [.ref 0, .int v]) q8 (by decide +kernel) I.1 ⟨rfl, aI _, trivial⟩)
theorem d9_end (I : IVh h) (J : half_end h x v ∧ SL h) : Sp 100 241 h [.ref 77, .int v] (fun h' r => IVS h' ∧ r = some (.int x)) :=
  hs_SL (by omega) rfl J.2 (c9_end I J.1) (tf_all (as := [.ref 77, .int v]) q10 (by decide +kernel) I ⟨rfl, aI _, trivial⟩)
theorem d8_image (I : IVS h) : Sp 100 121 h [.ref 0, .int v] (fun h' r => IVh h' ∧ ∃ x : Int32, r = some (.int x) ∧ (half_image h' x v ∧ SL h')) :=
  hf_SL (by omega) rfl I.2.2 (c8_image ⟨I.1, I.2.1⟩) (tf_all (as := [.ref 0, .int v]) q905 (by decide +kernel) I.1 ⟨rfl, aI _, trivial⟩)
theorem d9_image (I : IVh h) (J : half_image h x v ∧ SL h) : Sp 100 260 h [.ref 77, .int v] (fun h' r => IVS h' ∧ r = some (.int x)) :=
  hs_SL (M := VMI) (T := fun h' _ => HH h') (d := 40) (by omega) rfl J.2 (c9_image I J.1) (Sp_mono (fun _ _ q => ⟨q.1, q.2.1⟩) (tv_image (d := 0) I.1 I.2.2))
theorem d8_back (I : IVS h) : Sp 100 82 h [.ref 0, .int v] (fun h' r => IVh h' ∧ ∃ x : Int32, r = some (.int x) ∧ (half_back h' x v ∧ SL h')) :=
  hf_SL (by omega) rfl I.2.2 (c8_back ⟨I.1, I.2.1⟩) (tf_all (as := [.ref 0, .int v]) q927 (by decide +kernel) I.1 ⟨rfl, aI _, trivial⟩)
theorem d9_back (I : IVh h) (J : half_back h x v ∧ SL h) : Sp 100 212 h [.ref 77, .int v] (fun h' r => IVS h' ∧ r = some (.int x)) :=
  hs_SL (M := VM) (T := fun h' _ => HH h') (d := 40) (by omega) rfl J.2 (c9_back I J.1) (Sp_mono (fun _ _ q => ⟨q.1, q.2.1⟩) (tv_back (d := 0) I.1 I.2.2))
end OLD
theorem beq_no {a b : Nat} (h : a ≠ b) : Nat.beq a b = false := by
  cases hq : Nat.beq a b with
  | false => rfl
  | true => exact absurd (Nat.eq_of_beq_eq_true hq) h
theorem no2 {a1 l1 u1 a2 l2 u2 b : Nat} (h1 : a1 ≠ b) (h2 : a2 ≠ b) (k : Nat) : rg_in [(a1, l1, u1), (a2, l2, u2)] b k = false := rg_no (by simp [beq_no h1, beq_no h2]) k
theorem RM9_no {s0 b k : Nat} (h1 : 77 ≠ b) (h2 : b ≠ 80) (h3 : b = 78 ∨ b = 79 → k ≠ s0) : rg_in (RM9 s0) b k = false := by
  cases hq : rg_in (RM9 s0) b k with
  | false => rfl
  | true =>
    obtain ⟨r, hr, hc⟩ := List.any_eq_true.mp hq
    simp only [Bool.and_eq_true] at hc
    have c1 := Nat.eq_of_beq_eq_true hc.1
    have c2 := Nat.le_of_ble_eq_true hc.2.1
    have c3 := Nat.le_of_ble_eq_true hc.2.2
    simp only [RM9, List.mem_cons, List.not_mem_nil, or_false] at hr
    rcases hr with rfl | rfl | rfl | rfl
    · exact absurd c1 h1
    · exact absurd (Nat.le_antisymm c3 c2) (h3 (.inl c1.symm))
    · exact absurd (Nat.le_antisymm c3 c2) (h3 (.inr c1.symm))
    · exact absurd c1.symm h2
/-- row: between the class's call and the reference's -/
noncomputable def half_row (h : pm_H) (x a b c : Int32) : Prop := REL h ∧ x = rowv a b c ∧ ∀ s, s < 4 → (rin a b c ∧ a = nJ s ∧ gi h (54 + 2 * s) 1 = 1 ∧ gi h (54 + 2 * s) 2 = b ∧ gi h (54 + 2 * s) 3 = c) ∨ (¬ (rin a b c ∧ a = nJ s) ∧ SL1 s h)
section ROW
variable {h : pm_H} {x a b c : Int32}
theorem d8_row (I : IVS h) : Sp 100 171 h [.ref 0, .int a, .int b, .int c] (fun h' r => IVh h' ∧ ∃ x : Int32, r = some (.int x) ∧ half_row h' x a b c) := by
  refine Sp_le (by omega) (Sp_mono ?_ (Sp_and (top_all (as := [.ref 0, .int a, .int b, .int c]) q949 (by decide +kernel) I.1 ⟨rfl, aI _, aI _, aI _, trivial⟩) (sp_row8 (d := 0) I.1.1)))
  rintro h' r ⟨⟨s1, s2, -⟩, s3, s4⟩
  refine ⟨s1, _, s3, REL_fr s2 rfl I.2.1, rfl, fun s hs => ?_⟩
  rcases s4 with ⟨hr, -, s0, hs0, rfl, f0, g1, g2, g3⟩ | ⟨hr, rfl⟩
  · by_cases e : s = s0
    · subst e
      exact .inl ⟨hr, rfl, g1, g2, g3⟩
    · refine .inr ⟨fun q => e ?_, ?_⟩
      · exact ((nJ_eq (by omega) (by omega)).mp q.2).symm
      · exact SL1_eq (fr_gi f0 (no2 (by omega) (by omega) _)) (fr_gi f0 (no2 (by omega) (by omega) _)) (fr_gi f0 (no2 (by omega) (by omega) _)) (fr_gi f0 (no2 (by omega) (by omega) _)) (fr_gi f0 (no2 (by omega) (by omega) _)) (I.2.2 s hs)
  · exact .inr ⟨fun q => hr q.1, I.2.2 s hs⟩
theorem d9_row (I : IVh h) (J : half_row h x a b c) : Sp 100 338 h [.ref 77, .int a, .int b, .int c] (fun h' r => IVS h' ∧ r = some (.int x)) := by
  refine Sp_le (by omega) (Sp_mono ?_ (Sp_and (top_all (as := [.ref 77, .int a, .int b, .int c]) q950 (by decide +kernel) I ⟨rfl, aI _, aI _, aI _, trivial⟩) (sp_row9 (d := 0) I.1)))
  rintro h' r ⟨⟨s1, s2, -⟩, s3, s4⟩
  obtain ⟨J1, rfl, J3⟩ := J
  refine ⟨⟨s1, REL_fr s2 rfl J1, fun s hs => ?_⟩, s3⟩
  rcases s4 with ⟨hr, -, s0, hs0, rfl, f0, g1, g2⟩ | ⟨hr, rfl⟩
  · have eA : ∀ k, gi h' (54 + 2 * s) k = gi h (54 + 2 * s) k := fun k => fr_gi f0 (RM9_no (by omega) (by omega) (by omega))
    rcases J3 s hs with ⟨-, e, j1, j2, j3⟩ | ⟨e, S⟩
    · have e := (nJ_eq (by omega) (by omega)).mp e
      subst e
      have z0 : (0 : Int32).toInt = 0 := rfl
      have nb : ¬ gi h' 78 s0 = -1 := fun q => by
        rw [g1] at q
        have q2 := hr.2.1.1
        rw [q] at q2
        exact absurd q2 (by decide)
      refine ⟨by rw [if_neg nb, eA]; exact j1, fun _ => by rw [eA, g1]; exact j2, by rw [eA, g2]; exact j3⟩
    · have ne : s ≠ s0 := fun q => e ⟨hr, by rw [q]⟩
      exact SL1_eq (eA _) (eA _) (eA _) (fr_gi f0 (RM9_no (by omega) (by omega) (fun _ => ne))) (fr_gi f0 (RM9_no (by omega) (by omega) (fun _ => ne))) S
  · rcases J3 s hs with ⟨q, -⟩ | ⟨-, S⟩
    · exact absurd q hr
    · exact SL1_eq (gi_ne (by omega)) (gi_ne (by omega)) (gi_ne (by omega)) (gi_ne (by omega)) (gi_ne (by omega)) S
end ROW
noncomputable def half_write (h : pm_H) (x a b : Int32) : Prop := RES h ∧ x = wrv (rf h) (rm h) a b
theorem rf_fr {M : List Rng} {h h' : pm_H} (hf : fr_g M h h') (hb : slB M = true) (s : Nat) : rf h' s = rf h s ∧ rfw h' s = rfw h s ∧ rm h' s = rm h s := by
  have c2 := slB_r hb
  have e4 : gi h' 78 s = gi h 78 s := fr_gi hf (rg_no c2.1 _)
  have e5 : gi h' 79 s = gi h 79 s := fr_gi hf (rg_no c2.2 _)
  refine ⟨?_, e4, e5⟩
  unfold rf
  rw [e4]
end
