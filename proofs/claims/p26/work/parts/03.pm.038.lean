section
section AIP
variable {w : AW} {E : AEnv} {ρ : Nat → Int}
theorem con_bad_ok {n : Nat} {l : List Con} {a b : Nat} {c : Int} (h : ∀ q ∈ l, con_g n ρ q) (hc : ρ a ≤ ρ b + c) : con_bad l a b c = false := by
  cases hb : con_bad l a b c with
  | false => rfl
  | true =>
    obtain ⟨q, hq, hp⟩ := List.any_eq_true.mp hb
    split at hp
    · rename_i a' b' c'
      simp only [Bool.and_false, Bool.false_or, Bool.and_eq_true, decide_eq_true_eq] at hp
      obtain ⟨h1, h2, h3⟩ := hp
      have h1 := Nat.eq_of_beq_eq_true h1
      have h2 := Nat.eq_of_beq_eq_true h2
      subst h1; subst h2
      have := (h _ hq).2.2
      omega
    · cases hp
/-- x + o ≤ y + p is taken in -/
noncomputable def br_le (iv : IV) (cs : List Con) (k1 : Option Nat) (o1 : Int) (k2 : Option Nat) (o2 : Int) : Option (IV × List Con) := match k1, k2 with
  | some a, some b => bif Nat.beq a b then (bif decide (o1 ≤ o2) then some (iv, cs) else none) else match iv_rng iv k1 o1, iv_rng iv k2 o2 with
    | some (l1, _), some (_, u2) => match iv_nar iv k1 o1 l1 u2 with
      | some iv => match iv_nar iv k2 o2 l1 u2 with
        | some iv => bif con_bad cs a b (o2 - o1) then none else match tga (.inr (a, b, o2 - o1) :: cs) iv with
          | some iv => some (iv, .inr (a, b, o2 - o1) :: cs)
          | none => none
        | none => none
      | none => none
    | _, _ => some (iv, cs)
  | _, _ => match iv_rng iv k1 o1, iv_rng iv k2 o2 with
    | some (l1, _), some (_, u2) => match iv_nar iv k1 o1 l1 u2 with
      | some iv => match iv_nar iv k2 o2 l1 u2 with
        | some iv => match tga cs iv with
          | some iv => some (iv, cs)
          | none => none
        | none => none
      | none => none
    | _, _ => some (iv, cs)
theorem br_le_ok {iv : IV} {cs : List Con} {k1 k2 : Option Nat} {o1 o2 x y : Int} (g : ia_g E ρ iv) (hc : ∀ c ∈ cs, con_g iv.length ρ c) (hx : av_ev iv.length ρ k1 o1 x) (hy : av_ev iv.length ρ k2 o2 y) (h : x ≤ y) :
    ∃ q : IV × List Con, br_le iv cs k1 o1 k2 o2 = some q ∧ q.1.length = iv.length ∧ ia_g E ρ q.1 ∧ ∀ c ∈ q.2, con_g iv.length ρ c := by
  have key : ∀ l1 u1 l2 u2, iv_rng iv k1 o1 = some (l1, u1) → iv_rng iv k2 o2 = some (l2, u2) → ∀ cs' : List Con, (∀ c ∈ cs', con_g iv.length ρ c) → ∃ i1, iv_nar iv k1 o1 l1 u2 = some i1 ∧ ∃ i2, iv_nar i1 k2 o2 l1 u2 = some i2 ∧ ∃ i3, tga cs' i2 = some i3 ∧ i3.length = iv.length ∧ ia_g E ρ i3 := by
    intro l1 u1 l2 u2 r1 r2 cs' hcs
    have b1 := iv_rng_ok g hx r1
    have b2 := iv_rng_ok g hy r2
    obtain ⟨i1, e1, n1, g1⟩ := iv_nar_ok g hx (lo := l1) (hi := u2) (by omega) (by omega)
    obtain ⟨i2, e2, n2, g2⟩ := iv_nar_ok (k := k2) (o := o2) (v := y) (lo := l1) (hi := u2) g1 (by rw [n1]; exact hy) (by omega) (by omega)
    obtain ⟨i3, e3, n3, g3⟩ := tga_ok cs' i2 g2 (fun c hc => by rw [n2, n1]; exact hcs c hc)
    exact ⟨i1, e1, i2, e2, i3, e3, by omega, g3⟩
  have rest : ∃ q : IV × List Con, (match iv_rng iv k1 o1, iv_rng iv k2 o2 with
    | some (l1, _), some (_, u2) => match iv_nar iv k1 o1 l1 u2 with
      | some iv => match iv_nar iv k2 o2 l1 u2 with
        | some iv => match tga cs iv with
          | some iv => some (iv, cs)
          | none => none
        | none => none
      | none => none
    | _, _ => some (iv, cs)) = some q ∧ q.1.length = iv.length ∧ ia_g E ρ q.1 ∧ ∀ c ∈ q.2, con_g iv.length ρ c := by
    split
    · rename_i l1 u1 l2 u2 r1 r2
      obtain ⟨i1, e1, i2, e2, i3, e3, n3, g3⟩ := key l1 u1 l2 u2 r1 r2 cs hc
      rw [e1]
      simp only [e2, e3]
      exact ⟨_, rfl, n3, g3, hc⟩
    · exact ⟨_, rfl, rfl, g, hc⟩
  unfold br_le
  cases k1 with
  | none => exact rest
  | some a =>
    cases k2 with
    | none => exact rest
    | some b =>
      dsimp only
      cases hab : Nat.beq a b with
      | true =>
        have hab := Nat.eq_of_beq_eq_true hab
        subst hab
        have h1 := hx.2
        have h2 := hy.2
        have ho : o1 ≤ o2 := by omega
        simp only [ho, decide_true, cond_true]
        exact ⟨_, rfl, rfl, g, hc⟩
      | false =>
        simp only [cond_false]
        split
        · rename_i l1 u1 l2 u2 r1 r2
          have h1 := hx.2
          have h2 := hy.2
          have hle : ρ a ≤ ρ b + (o2 - o1) := by omega
          have hcs : ∀ c ∈ ((.inr (a, b, o2 - o1) : Con) :: cs), con_g iv.length ρ c := by
            intro c hm
            cases List.mem_cons.mp hm with
            | inl e => subst e; exact ⟨hx.1, hy.1, hle⟩
            | inr hm => exact hc c hm
          obtain ⟨i1, e1, i2, e2, i3, e3, n3, g3⟩ := key l1 u1 l2 u2 r1 r2 _ hcs
          rw [e1]
          simp only [e2, e3, con_bad_ok hc hle, cond_false]
          exact ⟨_, rfl, n3, g3, hcs⟩
        · exact ⟨_, rfl, rfl, g, hc⟩
/-- x + o ≠ y + p is taken in: the ends are trimmed -/
noncomputable def br_ne (iv : IV) (k1 : Option Nat) (o1 : Int) (k2 : Option Nat) (o2 : Int) : Option IV := match iv_rng iv k1 o1, iv_rng iv k2 o2 with
  | some (l1, u1), some (l2, u2) =>
    bif decide (l2 = u2) then iv_nar iv k1 o1 (bif decide (l1 = l2) then l1 + 1 else l1) (bif decide (u1 = l2) then u1 - 1 else u1)
    else (bif decide (l1 = u1) then iv_nar iv k2 o2 (bif decide (l2 = l1) then l2 + 1 else l2) (bif decide (u2 = l1) then u2 - 1 else u2) else some iv)
  | _, _ => some iv
theorem br_ne_ok {iv : IV} {k1 k2 : Option Nat} {o1 o2 x y : Int} (g : ia_g E ρ iv) (hx : av_ev iv.length ρ k1 o1 x) (hy : av_ev iv.length ρ k2 o2 y) (h : ¬ x = y) : ∃ iv', br_ne iv k1 o1 k2 o2 = some iv' ∧ iv'.length = iv.length ∧ ia_g E ρ iv' := by
  unfold br_ne
  split
  · rename_i l1 u1 l2 u2 r1 r2
    have b1 := iv_rng_ok g hx r1
    have b2 := iv_rng_ok g hy r2
    cases h1 : decide (l2 = u2) with
    | true =>
      have h1 := of_decide_eq_true h1
      refine iv_nar_ok g hx ?_ ?_
      · cases h2 : decide (l1 = l2) with
        | true => have h2 := of_decide_eq_true h2; show l1 + 1 ≤ x; omega
        | false => exact b1.1
      · cases h2 : decide (u1 = l2) with
        | true => have h2 := of_decide_eq_true h2; show x ≤ u1 - 1; omega
        | false => exact b1.2
    | false =>
      cases h3 : decide (l1 = u1) with
      | true =>
        have h3 := of_decide_eq_true h3
        refine iv_nar_ok g hy ?_ ?_
        · cases h2 : decide (l2 = l1) with
          | true => have h2 := of_decide_eq_true h2; show l2 + 1 ≤ y; omega
          | false => exact b2.1
        · cases h2 : decide (u2 = l1) with
          | true => have h2 := of_decide_eq_true h2; show y ≤ u2 - 1; omega
          | false => exact b2.2
      | false => exact ⟨iv, rfl, rfl, g⟩
  · exact ⟨iv, rfl, rfl, g⟩
end AIP
end
section
/-! THE EXECUTOR (second writing), part 5: operations on numbers -/
section AIO
variable {w : AW}
end AIO
end
