/-! sums about numbers: rows that count, trees by the order in which nodes come, bits -/
noncomputable def TL (f : Nat → Nat) : List Nat → Prop
  | [] => True
  | v :: L => v ≠ 0 ∧ v ∉ L ∧ (f v = 0 ∨ f v ∈ L) ∧ TL f L
theorem dep_zero (f : Nat → Nat) : ∀ d, dep f d 0
  | 0 => rfl
  | _ + 1 => .inl rfl
theorem dep_up1 {f : Nat → Nat} : ∀ {d v : Nat}, dep f d v → dep f (d + 1) v
  | 0, _, h => .inl h
  | _ + 1, _, .inl h => .inl h
  | _ + 1, _, .inr h => .inr (dep_up1 h)
theorem dep_le {f : Nat → Nat} {d v : Nat} (h : dep f d v) : ∀ {e : Nat}, d ≤ e → dep f e v
  | 0, he => by
    have : d = 0 := by omega
    subst this
    exact h
  | e + 1, he => by
    by_cases hd : d = e + 1
    · subst hd; exact h
    · exact dep_up1 (dep_le h (e := e) (by omega))
theorem TL_dep {f : Nat → Nat} : ∀ {L : List Nat}, TL f L → ∀ v, v ∈ L → dep f L.length v
  | [], _, v, hv => absurd hv List.not_mem_nil
  | u :: L, h, v, hv => by
    have ih : ∀ v, v ∈ L → dep f L.length v := TL_dep h.2.2.2
    show dep f (L.length + 1) v
    cases List.mem_cons.mp hv with
    | inr hv => exact dep_up1 (ih v hv)
    | inl e =>
      subst e
      right
      cases h.2.2.1 with
      | inl h0 => rw [h0]; exact dep_zero f _
      | inr h1 => exact ih _ h1
theorem TL_upd {f g : Nat → Nat} : ∀ {L : List Nat}, (∀ v, v ∈ L → g v = f v) → TL f L → TL g L
  | [], _, _ => trivial
  | u :: L, hfg, h => by
    refine ⟨h.1, h.2.1, ?_, TL_upd (fun v hv => hfg v (List.mem_cons_of_mem _ hv)) h.2.2.2⟩
    rw [hfg u List.mem_cons_self]
    exact h.2.2.1
