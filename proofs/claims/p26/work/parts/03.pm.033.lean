section
noncomputable def as_g (w : AW) (E : AEnv) (A : AS) (σ : pm_S) : Prop := ∃ ρ : Nat → Int, as_r w E ρ A σ
noncomputable def as_get : List (Nat × AV) → Nat → Option AV
  | [], _ => none
  | q :: l, i => bif Nat.beq q.1 i then some q.2 else as_get l i
theorem as_get_in {i : Nat} {a : AV} : ∀ {lv : List (Nat × AV)}, as_get lv i = some a → (i, a) ∈ lv
  | [], h => by cases h
  | q :: l, h => by
    unfold as_get at h
    cases hb : Nat.beq q.1 i with
    | true =>
      rw [hb] at h
      have h1 : q.1 = i := Nat.eq_of_beq_eq_true hb
      have h2 : q.2 = a := Option.some.inj h
      subst h1; subst h2
      exact List.mem_cons_self
    | false =>
      rw [hb] at h
      exact List.mem_cons_of_mem _ (as_get_in h)
/-- locals that a store leaves -/
theorem pm_get_filter {p : Nat × Value → Bool} {i : Nat} {v : Value} : ∀ {lv : List (Nat × Value)}, pm_get lv i = some v → p (i, v) = true → pm_get (lv.filter p) i = some v
  | [], h, _ => by cases h
  | q :: l, h, hp => by
    unfold pm_get at h
    cases hb : Nat.beq q.1 i with
    | true =>
      rw [hb] at h
      have h1 : q.1 = i := Nat.eq_of_beq_eq_true hb
      have h2 : q.2 = v := Option.some.inj h
      subst h1; subst h2
      rw [List.filter_cons_of_pos hp]
      unfold pm_get
      rw [hb]; rfl
    | false =>
      rw [hb] at h
      have ih := pm_get_filter (p := p) (i := i) (v := v) (lv := l) h hp
      cases hq : p q with
      | true =>
        rw [List.filter_cons_of_pos hq]
        unfold pm_get
        rw [hb]; exact ih
      | false =>
        rw [List.filter_cons_of_neg (by rw [hq]; exact Bool.false_ne_true)]
        exact ih
theorem pm_get_self {i : Nat} {v : Value} {l : List (Nat × Value)} : pm_get ((i, v) :: l) i = some v := by
  unfold pm_get; rw [Nat.beq_refl]; rfl
theorem pm_get_ne {i j : Nat} {v w : Value} {l : List (Nat × Value)} (h : j ≠ i) (hl : pm_get l j = some w) : pm_get ((i, v) :: l) j = some w := by
  unfold pm_get
  cases hb : Nat.beq i j with
  | true => exact absurd (Nat.eq_of_beq_eq_true hb).symm h
  | false => exact hl
noncomputable def as_put1 (i : Nat) (a : AV) (lv : List (Nat × AV)) : List (Nat × AV) := (i, a) :: lv.filter (fun q => !(Nat.beq q.1 i) && !(Nat.beq (q.1 + 1) i && Nat.beq (av_cat q.2) 2))
noncomputable def as_put2 (i : Nat) (a : AV) (lv : List (Nat × AV)) : List (Nat × AV) := (i, a) :: lv.filter (fun q => !(Nat.beq q.1 i) && (!(Nat.beq q.1 (i + 1)) && !(Nat.beq (q.1 + 1) i && Nat.beq (av_cat q.2) 2)))
theorem as_beq {a b : Nat} : (a == b) = Nat.beq a b := by
  cases h : Nat.beq a b with
  | true => rw [Nat.eq_of_beq_eq_true h]; exact beq_self_eq_true _
  | false => exact beq_eq_false_iff_ne.mpr (Nat.ne_of_beq_eq_false h)
theorem as_put1_ok {n : Nat} {ρ : Nat → Int} {i : Nat} {a : AV} {v : Value} {la : List (Nat × AV)} {lv : List (Nat × Value)} (h : ∀ j c, (j, c) ∈ la → ∃ w, pm_get lv j = some w ∧ av_g n ρ c w) (hv : av_g n ρ a v) :
    ∀ j c, (j, c) ∈ as_put1 i a la → ∃ w, pm_get (pm_put1 i v lv) j = some w ∧ av_g n ρ c w := by
  intro j c hm
  unfold as_put1 at hm
  cases List.mem_cons.mp hm with
  | inl e => cases e; exact ⟨v, pm_get_self, hv⟩
  | inr hm =>
    obtain ⟨hm1, hm2⟩ := List.mem_filter.mp hm
    obtain ⟨w, e1, e2⟩ := h j c hm1
    have hcat := av_cat_eq e2
    refine ⟨w, ?_, e2⟩
    simp only [← as_beq, Bool.and_eq_true, Bool.not_eq_true', Bool.and_eq_false_iff, beq_eq_false_iff_ne] at hm2
    refine pm_get_ne hm2.1 (pm_get_filter e1 ?_)
    simp only [Bool.and_eq_true, Bool.not_eq_true', Bool.and_eq_false_iff, beq_eq_false_iff_ne, hcat]
    exact hm2
theorem as_put2_ok {n : Nat} {ρ : Nat → Int} {i : Nat} {a : AV} {v : Value} {la : List (Nat × AV)} {lv : List (Nat × Value)} (h : ∀ j c, (j, c) ∈ la → ∃ w, pm_get lv j = some w ∧ av_g n ρ c w) (hv : av_g n ρ a v) :
    ∀ j c, (j, c) ∈ as_put2 i a la → ∃ w, pm_get (pm_put2 i v lv) j = some w ∧ av_g n ρ c w := by
  intro j c hm
  unfold as_put2 at hm
  cases List.mem_cons.mp hm with
  | inl e => cases e; exact ⟨v, pm_get_self, hv⟩
  | inr hm =>
    obtain ⟨hm1, hm2⟩ := List.mem_filter.mp hm
    obtain ⟨w, e1, e2⟩ := h j c hm1
    have hcat := av_cat_eq e2
    refine ⟨w, ?_, e2⟩
    simp only [← as_beq, Bool.and_eq_true, Bool.not_eq_true', Bool.and_eq_false_iff, beq_eq_false_iff_ne] at hm2
    refine pm_get_ne hm2.1 (pm_get_filter e1 ?_)
    simp only [Bool.and_eq_true, Bool.not_eq_true', Bool.and_eq_false_iff, beq_eq_false_iff_ne, hcat]
    exact hm2
end
section
/-! THE EXECUTOR (second writing), part 2: steps over abstract states; each covers the step of the pure machine -/
noncomputable def ai_ok (w : AW) (f : pm_S → Option pm_S) (g : AS → Option (List AS)) : Prop := ∀ (E : AEnv) (A : AS) (σ : pm_S) (As : List AS), as_g w E A σ → g A = some As → ∃ σ', f σ = some σ' ∧ ∃ A' ∈ As, as_g w E A' σ'
section AIS
variable {w : AW}
noncomputable def a_const (v : Value) (n : Nat) : AS → Option (List AS) := fun A => match v with
  | .int c => some [(n, A.2.1, .inl (none, c.toInt) :: A.2.2.1, A.2.2.2)]
  | .long c => some [(n, A.2.1, .inr (.inl (none, c.toInt)) :: A.2.2.1, A.2.2.2)]
  | .retAddr k => some [(n, A.2.1, .inr (.inr (.inr (.inl k))) :: A.2.2.1, A.2.2.2)]
  | _ => none
theorem a_const_ok (v : Value) (n : Nat) : ai_ok w (s_const v n) (a_const v n) := by
  rintro E ⟨pc, lv, st, iv, ex⟩ ⟨pc', cl, cs, W⟩ As ⟨ρ, g1, g2, g3, g4, g5⟩ h
  refine ⟨(n, cl, v :: cs, W), rfl, ?_⟩
  cases v with
  | int c => cases h; exact ⟨_, List.mem_singleton_self _, ρ, g1, rfl, g3, ⟨rfl, g4⟩, g5⟩
  | long c => cases h; exact ⟨_, List.mem_singleton_self _, ρ, g1, rfl, g3, ⟨rfl, g4⟩, g5⟩
  | retAddr c => cases h; exact ⟨_, List.mem_singleton_self _, ρ, g1, rfl, g3, ⟨rfl, g4⟩, g5⟩
  | _ => cases h
noncomputable def a_il (i n : Nat) : AS → Option (List AS) := fun A => match as_get A.2.1 i with
  | some (.inl (k, o)) => some [(n, A.2.1, .inl (k, o) :: A.2.2.1, A.2.2.2)]
  | _ => none
theorem a_il_ok (i n : Nat) : ai_ok w (s_il i n) (a_il i n) := by
  rintro E ⟨pc, lv, st, iv, ex⟩ ⟨pc', cl, cs, W⟩ As ⟨ρ, g1, g2, g3, g4, g5⟩ h
  simp only [a_il] at h
  split at h
  · rename_i k o e
    cases h
    obtain ⟨v, e1, e2⟩ := g3 i _ (as_get_in e)
    cases v with
    | int x => exact ⟨(n, cl, .int x :: cs, W), by simp only [s_il]; simp only at e1; rw [e1], _, List.mem_singleton_self _, ρ, g1, rfl, g3, ⟨e2, g4⟩, g5⟩
    | _ => exact e2.elim
  · cases h
end AIS
end
