/-! THE EXECUTOR (second writing), part 2: steps over abstract states; each covers the step of the pure machine -/
noncomputable def ai_ok (w : AW) (f : pm_S → Option pm_S) (g : AS → Option (List AS)) : Prop := ∀ (E : AEnv) (A : AS) (σ : pm_S) (As : List AS), as_g w E A σ → g A = some As → ∃ σ', f σ = some σ' ∧ ∃ A' ∈ As, as_g w E A' σ'
section AIS
variable {w : AW}
noncomputable def a_const (v : Value) (n : Nat) : AS → Option (List AS) := fun A => match v with
  | .int c => some [(n, A.2.1, .inl (none, c.toInt) :: A.2.2.1, A.2.2.2)]
  | .long c => some [(n, A.2.1, .inr (.inl (none, c.toInt)) :: A.2.2.1, A.2.2.2)]
  | .retAddr k => some [(n, A.2.1, .inr (.inr (.inr (.inl k))) :: A.2.2.1, A.2.2.2)]
  | _ => none
theorem a_const_ok (v : Value) (n : Nat) : ai_ok w (s_const v n) (a_const v n) := by
  rintro E ⟨pc, lv, st, iv, ex⟩ ⟨pc', cl, cs, W⟩ As ⟨ρ, g1, g2, g3, g4, g5⟩ h
  refine ⟨(n, cl, v :: cs, W), rfl, ?_⟩
  cases v with
  | int c => cases h; exact ⟨_, List.mem_singleton_self _, ρ, g1, rfl, g3, ⟨rfl, g4⟩, g5⟩
  | long c => cases h; exact ⟨_, List.mem_singleton_self _, ρ, g1, rfl, g3, ⟨rfl, g4⟩, g5⟩
  | retAddr c => cases h; exact ⟨_, List.mem_singleton_self _, ρ, g1, rfl, g3, ⟨rfl, g4⟩, g5⟩
  | _ => cases h
noncomputable def a_il (i n : Nat) : AS → Option (List AS) := fun A => match as_get A.2.1 i with
  | some (.inl (k, o)) => some [(n, A.2.1, .inl (k, o) :: A.2.2.1, A.2.2.2)]
  | _ => none
theorem a_il_ok (i n : Nat) : ai_ok w (s_il i n) (a_il i n) := by
  rintro E ⟨pc, lv, st, iv, ex⟩ ⟨pc', cl, cs, W⟩ As ⟨ρ, g1, g2, g3, g4, g5⟩ h
  simp only [a_il] at h
  split at h
  · rename_i k o e
    cases h
    obtain ⟨v, e1, e2⟩ := g3 i _ (as_get_in e)
    cases v with
    | int x => exact ⟨(n, cl, .int x :: cs, W), by simp only [s_il]; simp only at e1; rw [e1], _, List.mem_singleton_self _, ρ, g1, rfl, g3, ⟨e2, g4⟩, g5⟩
    | _ => exact e2.elim
  · cases h
noncomputable def a_ll (i n : Nat) : AS → Option (List AS) := fun A => match as_get A.2.1 i with
  | some (.inr (.inl (k, o))) => some [(n, A.2.1, .inr (.inl (k, o)) :: A.2.2.1, A.2.2.2)]
  | _ => none
theorem a_ll_ok (i n : Nat) : ai_ok w (s_ll i n) (a_ll i n) := by
  rintro E ⟨pc, lv, st, iv, ex⟩ ⟨pc', cl, cs, W⟩ As ⟨ρ, g1, g2, g3, g4, g5⟩ h
  simp only [a_ll] at h
  split at h
  · rename_i k o e
    cases h
    obtain ⟨v, e1, e2⟩ := g3 i _ (as_get_in e)
    cases v with
    | long x => exact ⟨(n, cl, .long x :: cs, W), by simp only [s_ll]; simp only at e1; rw [e1], _, List.mem_singleton_self _, ρ, g1, rfl, g3, ⟨e2, g4⟩, g5⟩
    | _ => exact e2.elim
  · cases h
noncomputable def a_al (i n : Nat) : AS → Option (List AS) := fun A => match as_get A.2.1 i with
  | some (.inr (.inr (.inl a))) => some [(n, A.2.1, .inr (.inr (.inl a)) :: A.2.2.1, A.2.2.2)]
  | some (.inr (.inr (.inr (.inl a)))) => some [(n, A.2.1, .inr (.inr (.inr (.inl a))) :: A.2.2.1, A.2.2.2)]
  | _ => none
theorem a_al_ok (i n : Nat) : ai_ok w (s_al i n) (a_al i n) := by
  rintro E ⟨pc, lv, st, iv, ex⟩ ⟨pc', cl, cs, W⟩ As ⟨ρ, g1, g2, g3, g4, g5⟩ h
  simp only [a_al] at h
  split at h
  · rename_i a e
    cases h
    obtain ⟨v, e1, e2⟩ := g3 i _ (as_get_in e)
    cases v with
    | ref x => exact ⟨(n, cl, .ref x :: cs, W), by simp only [s_al]; simp only at e1; rw [e1], _, List.mem_singleton_self _, ρ, g1, rfl, g3, ⟨e2, g4⟩, g5⟩
    | _ => exact e2.elim
  · rename_i a e
    cases h
    obtain ⟨v, e1, e2⟩ := g3 i _ (as_get_in e)
    cases v with
    | retAddr x => exact ⟨(n, cl, .retAddr x :: cs, W), by simp only [s_al]; simp only at e1; rw [e1], _, List.mem_singleton_self _, ρ, g1, rfl, g3, ⟨e2, g4⟩, g5⟩
    | _ => exact e2.elim
  · cases h
/-- a store to a local leaves those that stay -/
noncomputable def kp1 (K : List Nat) (lv : List (Nat × AV)) (i : Nat) : Bool := K.all (fun j => !(Nat.beq j i) && (match as_get lv j with | some a => !(Nat.beq (j + 1) i) || Nat.beq (av_cat a) 1 | none => false))
noncomputable def kp2 (K : List Nat) (lv : List (Nat × AV)) (i : Nat) : Bool := K.all (fun j => !(Nat.beq j i) && (!(Nat.beq j (i + 1)) && (match as_get lv j with | some a => !(Nat.beq (j + 1) i) || Nat.beq (av_cat a) 1 | none => false)))
theorem ex_put1 {E : AEnv} {n : Nat} {ρ : Nat → Int} {ex : AX} {cl : List (Nat × Value)} {h : pm_H} {lv : List (Nat × AV)} {i : Nat} {v : Value} (g3 : ∀ i a, (i, a) ∈ lv → ∃ v, pm_get cl i = some v ∧ av_g n ρ a v) (hk : kp1 ex.2.2.2.2 lv i = true) (g : ex_g w E n ρ ex cl h) : ex_g w E n ρ ex (pm_put1 i v cl) h := by
  obtain ⟨g1, g2, g4, g5, g6, g7⟩ := g
  refine ⟨g1, g2, g4, g5, g6, fun j hj => ?_⟩
  have h1 := List.all_eq_true.mp hk j hj
  rw [Bool.and_eq_true] at h1
  split at h1
  · rename_i a e
    obtain ⟨u, e1, e2⟩ := g3 j a (as_get_in e)
    have hcat := av_cat_eq e2
    rw [← g7 j hj, e1]
    simp only [← as_beq, Bool.not_eq_true', Bool.or_eq_true, beq_eq_false_iff_ne, beq_iff_eq] at h1
    refine pm_get_ne h1.1 (pm_get_filter e1 ?_)
    simp only [Bool.and_eq_true, Bool.not_eq_true', Bool.and_eq_false_iff, beq_eq_false_iff_ne, hcat]
    refine ⟨h1.1, ?_⟩
    cases h1.2 with
    | inl q => exact .inl q
    | inr q => right; rw [q]; decide
  · cases h1.2
theorem ex_put2 {E : AEnv} {n : Nat} {ρ : Nat → Int} {ex : AX} {cl : List (Nat × Value)} {h : pm_H} {lv : List (Nat × AV)} {i : Nat} {v : Value} (g3 : ∀ i a, (i, a) ∈ lv → ∃ v, pm_get cl i = some v ∧ av_g n ρ a v) (hk : kp2 ex.2.2.2.2 lv i = true) (g : ex_g w E n ρ ex cl h) : ex_g w E n ρ ex (pm_put2 i v cl) h := by
  obtain ⟨g1, g2, g4, g5, g6, g7⟩ := g
  refine ⟨g1, g2, g4, g5, g6, fun j hj => ?_⟩
  have h1 := List.all_eq_true.mp hk j hj
  rw [Bool.and_eq_true, Bool.and_eq_true] at h1
  split at h1
  · rename_i a e
    obtain ⟨u, e1, e2⟩ := g3 j a (as_get_in e)
    have hcat := av_cat_eq e2
    rw [← g7 j hj, e1]
    simp only [← as_beq, Bool.not_eq_true', Bool.or_eq_true, beq_eq_false_iff_ne, beq_iff_eq] at h1
    refine pm_get_ne h1.1 (pm_get_filter e1 ?_)
    simp only [Bool.and_eq_true, Bool.not_eq_true', Bool.and_eq_false_iff, beq_eq_false_iff_ne, hcat]
    refine ⟨h1.1, h1.2.1, ?_⟩
    cases h1.2.2 with
    | inl q => exact .inl q
    | inr q => right; rw [q]; decide
  · cases h1.2.2
noncomputable def a_is (i n : Nat) : AS → Option (List AS) := fun A => match A.2.2.1 with
  | .inl (k, o) :: st => bif kp1 A.2.2.2.2.2.2.2.2 A.2.1 i then some [(n, as_put1 i (.inl (k, o)) A.2.1, st, A.2.2.2)] else none
  | _ => none
theorem a_is_ok (i n : Nat) : ai_ok w (s_is i n) (a_is i n) := by
  rintro E ⟨pc, lv, st, iv, ex⟩ ⟨pc', cl, cs, W⟩ As ⟨ρ, g1, g2, g3, g4, g5⟩ h
  simp only [a_is] at h
  split at h
  · rename_i st'
    cases hb : kp1 ex.2.2.2.2 lv i with
    | false => rw [hb] at h; cases h
    | true =>
      rw [hb] at h
      cases h
      obtain ⟨v, cs, rfl, ha, hr⟩ := f2_cons g4
      cases v with
      | int x => exact ⟨(n, pm_put1 i (.int x) cl, cs, W), rfl, _, List.mem_singleton_self _, ρ, g1, rfl, as_put1_ok g3 ha, hr, ex_put1 g3 hb g5⟩
      | _ => exact ha.elim
  · cases h
noncomputable def a_ls (i n : Nat) : AS → Option (List AS) := fun A => match A.2.2.1 with
  | .inr (.inl (k, o)) :: st => bif kp2 A.2.2.2.2.2.2.2.2 A.2.1 i then some [(n, as_put2 i (.inr (.inl (k, o))) A.2.1, st, A.2.2.2)] else none
  | _ => none
theorem a_ls_ok (i n : Nat) : ai_ok w (s_ls i n) (a_ls i n) := by
  rintro E ⟨pc, lv, st, iv, ex⟩ ⟨pc', cl, cs, W⟩ As ⟨ρ, g1, g2, g3, g4, g5⟩ h
  simp only [a_ls] at h
  split at h
  · rename_i st'
    cases hb : kp2 ex.2.2.2.2 lv i with
    | false => rw [hb] at h; cases h
    | true =>
      rw [hb] at h
      cases h
      obtain ⟨v, cs, rfl, ha, hr⟩ := f2_cons g4
      cases v with
      | long x => exact ⟨(n, pm_put2 i (.long x) cl, cs, W), rfl, _, List.mem_singleton_self _, ρ, g1, rfl, as_put2_ok g3 ha, hr, ex_put2 g3 hb g5⟩
      | _ => exact ha.elim
  · cases h
noncomputable def a_as (i n : Nat) : AS → Option (List AS) := fun A => match A.2.2.1 with
  | .inr (.inr (.inl a)) :: st => bif kp1 A.2.2.2.2.2.2.2.2 A.2.1 i then some [(n, as_put1 i (.inr (.inr (.inl a))) A.2.1, st, A.2.2.2)] else none
  | _ => none
theorem a_as_ok (i n : Nat) : ai_ok w (s_as i n) (a_as i n) := by
  rintro E ⟨pc, lv, st, iv, ex⟩ ⟨pc', cl, cs, W⟩ As ⟨ρ, g1, g2, g3, g4, g5⟩ h
  simp only [a_as] at h
  split at h
  · rename_i st'
    cases hb : kp1 ex.2.2.2.2 lv i with
    | false => rw [hb] at h; cases h
    | true =>
      rw [hb] at h
      cases h
      obtain ⟨v, cs, rfl, ha, hr⟩ := f2_cons g4
      cases v with
      | ref x => exact ⟨(n, pm_put1 i (.ref x) cl, cs, W), rfl, _, List.mem_singleton_self _, ρ, g1, rfl, as_put1_ok g3 ha, hr, ex_put1 g3 hb g5⟩
      | _ => exact ha.elim
  · cases h
noncomputable def a_goto (t : Nat) : AS → Option (List AS) := fun A => some [(t, A.2.1, A.2.2.1, A.2.2.2)]
theorem a_goto_ok (t : Nat) : ai_ok w (s_goto t) (a_goto t) := by
  rintro E ⟨pc, lv, st, iv, ex⟩ ⟨pc', cl, cs, W⟩ As ⟨ρ, g1, g2, g3, g4, g5⟩ h
  cases h
  exact ⟨(t, cl, cs, W), rfl, _, List.mem_singleton_self _, ρ, g1, rfl, g3, g4, g5⟩
noncomputable def a_dup (n : Nat) : AS → Option (List AS) := fun A => match A.2.2.1 with
  | a :: st => bif Nat.beq (av_cat a) 1 then some [(n, A.2.1, a :: a :: st, A.2.2.2)] else none
  | _ => none
theorem a_dup_ok (n : Nat) : ai_ok w (s_dup n) (a_dup n) := by
  rintro E ⟨pc, lv, st, iv, ex⟩ ⟨pc', cl, cs, W⟩ As ⟨ρ, g1, g2, g3, g4, g5⟩ h
  simp only [a_dup] at h
  split at h
  · rename_i a st'
    cases hb : Nat.beq (av_cat a) 1 with
    | false => rw [hb] at h; cases h
    | true =>
      rw [hb] at h
      cases h
      obtain ⟨v, cs, rfl, ha, hr⟩ := f2_cons g4
      ·
        exact ⟨(n, cl, v :: v :: cs, W), by simp only [s_dup]; rw [av_cat_eq ha, hb]; rfl, _, List.mem_singleton_self _, ρ, g1, rfl, g3, ⟨ha, ha, hr⟩, g5⟩
  · cases h
noncomputable def a_pop (n : Nat) : AS → Option (List AS) := fun A => match A.2.2.1 with
  | a :: st => bif Nat.beq (av_cat a) 1 then some [(n, A.2.1, st, A.2.2.2)] else none
  | _ => none
theorem a_pop_ok (n : Nat) : ai_ok w (s_pop n) (a_pop n) := by
  rintro E ⟨pc, lv, st, iv, ex⟩ ⟨pc', cl, cs, W⟩ As ⟨ρ, g1, g2, g3, g4, g5⟩ h
  simp only [a_pop] at h
  split at h
  · rename_i a st'
    cases hb : Nat.beq (av_cat a) 1 with
    | false => rw [hb] at h; cases h
    | true =>
      rw [hb] at h
      cases h
      obtain ⟨v, cs, rfl, ha, hr⟩ := f2_cons g4
      ·
        exact ⟨(n, cl, cs, W), by simp only [s_pop]; rw [av_cat_eq ha, hb]; rfl, _, List.mem_singleton_self _, ρ, g1, rfl, g3, hr, g5⟩
  · cases h
noncomputable def a_pop2 (n : Nat) : AS → Option (List AS) := fun A => match A.2.2.1 with
  | a :: st => bif Nat.beq (av_cat a) 2 then some [(n, A.2.1, st, A.2.2.2)] else none
  | _ => none
theorem a_pop2_ok (n : Nat) : ai_ok w (s_pop2 n) (a_pop2 n) := by
  rintro E ⟨pc, lv, st, iv, ex⟩ ⟨pc', cl, cs, W⟩ As ⟨ρ, g1, g2, g3, g4, g5⟩ h
  simp only [a_pop2] at h
  split at h
  · rename_i a st'
    cases hb : Nat.beq (av_cat a) 2 with
    | false => rw [hb] at h; cases h
    | true =>
      rw [hb] at h
      cases h
      obtain ⟨v, cs, rfl, ha, hr⟩ := f2_cons g4
      ·
        exact ⟨(n, cl, cs, W), by simp only [s_pop2]; rw [av_cat_eq ha, hb]; rfl, _, List.mem_singleton_self _, ρ, g1, rfl, g3, hr, g5⟩
  · cases h
noncomputable def a_dup2 (n : Nat) : AS → Option (List AS) := fun A => match A.2.2.1 with
  | a :: c :: st => bif Nat.beq (av_cat a) 1 && Nat.beq (av_cat c) 1 then some [(n, A.2.1, a :: c :: a :: c :: st, A.2.2.2)] else none
  | _ => none
theorem a_dup2_ok (n : Nat) : ai_ok w (s_dup2 n) (a_dup2 n) := by
  rintro E ⟨pc, lv, st, iv, ex⟩ ⟨pc', cl, cs, W⟩ As ⟨ρ, g1, g2, g3, g4, g5⟩ h
  simp only [a_dup2] at h
  split at h
  · rename_i a c st'
    cases hb : (Nat.beq (av_cat a) 1 && Nat.beq (av_cat c) 1) with
    | false => rw [hb] at h; cases h
    | true =>
      rw [hb] at h
      cases h
      obtain ⟨v, cs, rfl, ha, hr0⟩ := f2_cons g4
      ·
        obtain ⟨u, cs, rfl, hc, hr⟩ := f2_cons hr0
        ·
          exact ⟨(n, cl, v :: u :: v :: u :: cs, W), by simp only [s_dup2]; rw [av_cat_eq ha, av_cat_eq hc, hb]; rfl, _, List.mem_singleton_self _, ρ, g1, rfl, g3, ⟨ha, hc, ha, hc, hr⟩, g5⟩
  · cases h
end AIS
