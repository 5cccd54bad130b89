section
section AIS
variable {w : AW}
noncomputable def a_ll (i n : Nat) : AS → Option (List AS) := fun A => match as_get A.2.1 i with
  | some (.inr (.inl (k, o))) => some [(n, A.2.1, .inr (.inl (k, o)) :: A.2.2.1, A.2.2.2)]
  | _ => none
theorem a_ll_ok (i n : Nat) : ai_ok w (s_ll i n) (a_ll i n) := by
  rintro E ⟨pc, lv, st, iv, ex⟩ ⟨pc', cl, cs, W⟩ As ⟨ρ, g1, g2, g3, g4, g5⟩ h
  simp only [a_ll] at h
  split at h
  · rename_i k o e
    cases h
    obtain ⟨v, e1, e2⟩ := g3 i _ (as_get_in e)
    cases v with
    | long x => exact ⟨(n, cl, .long x :: cs, W), by simp only [s_ll]; simp only at e1; rw [e1], _, List.mem_singleton_self _, ρ, g1, rfl, g3, ⟨e2, g4⟩, g5⟩
    | _ => exact e2.elim
  · cases h
noncomputable def a_al (i n : Nat) : AS → Option (List AS) := fun A => match as_get A.2.1 i with
  | some (.inr (.inr (.inl a))) => some [(n, A.2.1, .inr (.inr (.inl a)) :: A.2.2.1, A.2.2.2)]
  | some (.inr (.inr (.inr (.inl a)))) => some [(n, A.2.1, .inr (.inr (.inr (.inl a))) :: A.2.2.1, A.2.2.2)]
  | _ => none
theorem a_al_ok (i n : Nat) : ai_ok w (s_al i n) (a_al i n) := by
  rintro E ⟨pc, lv, st, iv, ex⟩ ⟨pc', cl, cs, W⟩ As ⟨ρ, g1, g2, g3, g4, g5⟩ h
  simp only [a_al] at h
  split at h
  · rename_i a e
    cases h
    obtain ⟨v, e1, e2⟩ := g3 i _ (as_get_in e)
    cases v with
    | ref x => exact ⟨(n, cl, .ref x :: cs, W), by simp only [s_al]; simp only at e1; rw [e1], _, List.mem_singleton_self _, ρ, g1, rfl, g3, ⟨e2, g4⟩, g5⟩
    | _ => exact e2.elim
  · rename_i a e
    cases h
    obtain ⟨v, e1, e2⟩ := g3 i _ (as_get_in e)
    cases v with
    | retAddr x => exact ⟨(n, cl, .retAddr x :: cs, W), by simp only [s_al]; simp only at e1; rw [e1], _, List.mem_singleton_self _, ρ, g1, rfl, g3, ⟨e2, g4⟩, g5⟩
    | _ => exact e2.elim
  · cases h
/-- a store to a local leaves those that stay -/
noncomputable def kp1 (K : List Nat) (lv : List (Nat × AV)) (i : Nat) : Bool := K.all (fun j => !(Nat.beq j i) && (match as_get lv j with | some a => !(Nat.beq (j + 1) i) || Nat.beq (av_cat a) 1 | none => false))
noncomputable def kp2 (K : List Nat) (lv : List (Nat × AV)) (i : Nat) : Bool := K.all (fun j => !(Nat.beq j i) && (!(Nat.beq j (i + 1)) && (match as_get lv j with | some a => !(Nat.beq (j + 1) i) || Nat.beq (av_cat a) 1 | none => false)))
theorem ex_put1 {E : AEnv} {n : Nat} {ρ : Nat → Int} {ex : AX} {cl : List (Nat × Value)} {h : pm_H} {lv : List (Nat × AV)} {i : Nat} {v : Value} (g3 : ∀ i a, (i, a) ∈ lv → ∃ v, pm_get cl i = some v ∧ av_g n ρ a v) (hk : kp1 ex.2.2.2.2 lv i = true) (g : ex_g w E n ρ ex cl h) : ex_g w E n ρ ex (pm_put1 i v cl) h := by
  obtain ⟨g1, g2, g4, g5, g6, g7⟩ := g
  refine ⟨g1, g2, g4, g5, g6, fun j hj => ?_⟩
  have h1 := List.all_eq_true.mp hk j hj
  rw [Bool.and_eq_true] at h1
  split at h1
  · rename_i a e
    obtain ⟨u, e1, e2⟩ := g3 j a (as_get_in e)
    have hcat := av_cat_eq e2
    rw [← g7 j hj, e1]
    simp only [← as_beq, Bool.not_eq_true', Bool.or_eq_true, beq_eq_false_iff_ne, beq_iff_eq] at h1
    refine pm_get_ne h1.1 (pm_get_filter e1 ?_)
    simp only [Bool.and_eq_true, Bool.not_eq_true', Bool.and_eq_false_iff, beq_eq_false_iff_ne, hcat]
    refine ⟨h1.1, ?_⟩
    cases h1.2 with
    | inl q => exact .inl q
    | inr q => right; rw [q]; decide
  · cases h1.2
theorem ex_put2 {E : AEnv} {n : Nat} {ρ : Nat → Int} {ex : AX} {cl : List (Nat × Value)} {h : pm_H} {lv : List (Nat × AV)} {i : Nat} {v : Value} (g3 : ∀ i a, (i, a) ∈ lv → ∃ v, pm_get cl i = some v ∧ av_g n ρ a v) (hk : kp2 ex.2.2.2.2 lv i = true) (g : ex_g w E n ρ ex cl h) : ex_g w E n ρ ex (pm_put2 i v cl) h := by
  obtain ⟨g1, g2, g4, g5, g6, g7⟩ := g
  refine ⟨g1, g2, g4, g5, g6, fun j hj => ?_⟩
  have h1 := List.all_eq_true.mp hk j hj
  rw [Bool.and_eq_true, Bool.and_eq_true] at h1
  split at h1
  · rename_i a e
    obtain ⟨u, e1, e2⟩ := g3 j a (as_get_in e)
    have hcat := av_cat_eq e2
    rw [← g7 j hj, e1]
    simp only [← as_beq, Bool.not_eq_true', Bool.or_eq_true, beq_eq_false_iff_ne, beq_iff_eq] at h1
    refine pm_get_ne h1.1 (pm_get_filter e1 ?_)
    simp only [Bool.and_eq_true, Bool.not_eq_true', Bool.and_eq_false_iff, beq_eq_false_iff_ne, hcat]
    refine ⟨h1.1, h1.2.1, ?_⟩
    cases h1.2.2 with
    | inl q => exact .inl q
    | inr q => right; rw [q]; decide
  · cases h1.2.2
noncomputable def a_is (i n : Nat) : AS → Option (List AS) := fun A => match A.2.2.1 with
  | .inl (k, o) :: st => bif kp1 A.2.2.2.2.2.2.2.2 A.2.1 i then some [(n, as_put1 i (.inl (k, o)) A.2.1, st, A.2.2.2)] else none
  | _ => none
theorem a_is_ok (i n : Nat) : ai_ok w (s_is i n) (a_is i n) := by
  rintro E ⟨pc, lv, st, iv, ex⟩ ⟨pc', cl, cs, W⟩ As ⟨ρ, g1, g2, g3, g4, g5⟩ h
  simp only [a_is] at h
  split at h
  · rename_i st'
    cases hb : kp1 ex.2.2.2.2 lv i with
    | false => rw [hb] at h; cases h
    | true =>
      rw [hb] at h
      cases h
      obtain ⟨v, cs, rfl, ha, hr⟩ := f2_cons g4
      cases v with
      | int x => exact ⟨(n, pm_put1 i (.int x) cl, cs, W), rfl, _, List.mem_singleton_self _, ρ, g1, rfl, as_put1_ok g3 ha, hr, ex_put1 g3 hb g5⟩
      | _ => exact ha.elim
  · cases h
noncomputable def a_ls (i n : Nat) : AS → Option (List AS) := fun A => match A.2.2.1 with
  | .inr (.inl (k, o)) :: st => bif kp2 A.2.2.2.2.2.2.2.2 A.2.1 i then some [(n, as_put2 i (.inr (.inl (k, o))) A.2.1, st, A.2.2.2)] else none
  | _ => none
theorem a_ls_ok (i n : Nat) : ai_ok w (s_ls i n) (a_ls i n) := by
  rintro E ⟨pc, lv, st, iv, ex⟩ ⟨pc', cl, cs, W⟩ As ⟨ρ, g1, g2, g3, g4, g5⟩ h
  simp only [a_ls] at h
  split at h
  · rename_i st'
    cases hb : kp2 ex.2.2.2.2 lv i with
    | false => rw [hb] at h; cases h
    | true =>
      rw [hb] at h
      cases h
      obtain ⟨v, cs, rfl, ha, hr⟩ := f2_cons g4
      cases v with
      | long x => exact ⟨(n, pm_put2 i (.long x) cl, cs, W), rfl, _, List.mem_singleton_self _, ρ, g1, rfl, as_put2_ok g3 ha, hr, ex_put2 g3 hb g5⟩
      | _ => exact ha.elim
  · cases h
noncomputable def a_as (i n : Nat) : AS → Option (List AS) := fun A => match A.2.2.1 with
  | .inr (.inr (.inl a)) :: st => bif kp1 A.2.2.2.2.2.2.2.2 A.2.1 i then some [(n, as_put1 i (.inr (.inr (.inl a))) A.2.1, st, A.2.2.2)] else none
  | _ => none
theorem a_as_ok (i n : Nat) : ai_ok w (s_as i n) (a_as i n) := by
  rintro E ⟨pc, lv, st, iv, ex⟩ ⟨pc', cl, cs, W⟩ As ⟨ρ, g1, g2, g3, g4, g5⟩ h
  simp only [a_as] at h
  split at h
  · rename_i st'
    cases hb : kp1 ex.2.2.2.2 lv i with
    | false => rw [hb] at h; cases h
    | true =>
      rw [hb] at h
      cases h
      obtain ⟨v, cs, rfl, ha, hr⟩ := f2_cons g4
      cases v with
      | ref x => exact ⟨(n, pm_put1 i (.ref x) cl, cs, W), rfl, _, List.mem_singleton_self _, ρ, g1, rfl, as_put1_ok g3 ha, hr, ex_put1 g3 hb g5⟩
      | _ => exact ha.elim
  · cases h
end AIS
end
