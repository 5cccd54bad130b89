section
noncomputable def hs_g (hs : List AE) (h : pm_H) : Prop := h.length = hs.length ∧ ∀ (a : Nat) c x, hs[a]? = some c → h[a]? = some x → ae_g c x
theorem hs_at {hs : List AE} {h : pm_H} {a : Nat} {c : AE} (H : hs_g hs h) (hc : hs[a]? = some c) : ∃ x, h[a]? = some x ∧ ae_g c x := by
  have hl : a < hs.length := (List.getElem?_eq_some_iff.mp hc).1
  have hl' : a < h.length := by rw [H.1]; exact hl
  exact ⟨h[a], List.getElem?_eq_getElem hl', H.2 a c _ hc (List.getElem?_eq_getElem hl')⟩
theorem hs_set {hs : List AE} {h : pm_H} {a : Nat} {c : AE} {x : pm_E} (H : hs_g hs h) (hc : hs[a]? = some c) (hx : ae_g c x) : hs_g hs (h.set a x) := by
  refine ⟨by rw [List.length_set]; exact H.1, fun b c' x' h1 h2 => ?_⟩
  by_cases hab : a = b
  · subst hab
    have hl : a < h.length := by rw [H.1]; exact (List.getElem?_eq_some_iff.mp hc).1
    rw [List.getElem?_set_self hl] at h2
    cases h2
    rw [hc] at h1
    cases h1
    exact hx
  · rw [List.getElem?_set_ne hab] at h2
    exact H.2 b c' x' h1 h2
/-- what lies in a cell at a number: a field, an int, a long -/
noncomputable def ld (h : pm_H) (a k : Nat) : Option Value := match h[a]? with
  | some (.inl (_, _, .inl f)) => some (.int (f k))
  | some (.inl (_, _, .inr (.inl f))) => some (.long (f k))
  | some (.inr (_, vs)) => vs[k]?
  | _ => none
/-- ranges of numbers in cells -/
noncomputable abbrev Rng : Type := Nat × Nat × Nat
noncomputable def rg_in (M : List Rng) (a k : Nat) : Bool := M.any (fun r => Nat.beq r.1 a && (Nat.ble r.2.1 k && Nat.ble k r.2.2))
noncomputable def rg_sub (M : List Rng) (a l u : Nat) : Bool := M.any (fun r => Nat.beq r.1 a && (Nat.ble r.2.1 l && Nat.ble u r.2.2))
theorem rg_sub_in {M : List Rng} {a l u k : Nat} (h : rg_sub M a l u = true) (h1 : l ≤ k) (h2 : k ≤ u) : rg_in M a k = true := by
  obtain ⟨r, hr, hb⟩ := List.any_eq_true.mp h
  simp only [Bool.and_eq_true] at hb
  refine List.any_eq_true.mpr ⟨r, hr, ?_⟩
  simp only [Bool.and_eq_true]
  exact ⟨hb.1, Nat.ble_eq_true_of_le (Nat.le_trans (Nat.le_of_ble_eq_true hb.2.1) h1), Nat.ble_eq_true_of_le (Nat.le_trans h2 (Nat.le_of_ble_eq_true hb.2.2))⟩
/-- the ranges meet nowhere -/
noncomputable def rg_dis (S : List Rng) (a l u : Nat) : Bool := S.all (fun r => !(Nat.beq r.1 a) || (Nat.blt r.2.2 l || Nat.blt u r.2.1))
theorem rg_dis_in {S : List Rng} {a l u k : Nat} (h : rg_dis S a l u = true) (h1 : l ≤ k) (h2 : k ≤ u) : rg_in S a k = false := by
  cases hb : rg_in S a k with
  | false => rfl
  | true =>
    obtain ⟨r, hr, hc⟩ := List.any_eq_true.mp hb
    have hd := List.all_eq_true.mp h r hr
    simp only [Bool.and_eq_true] at hc
    simp only [Bool.or_eq_true, Bool.not_eq_true'] at hd
    have c1 := Nat.le_of_ble_eq_true hc.2.1
    have c2 := Nat.le_of_ble_eq_true hc.2.2
    rcases hd with hd | hd | hd
    · rw [hc.1] at hd; cases hd
    · have := Nat.le_of_ble_eq_true hd; omega
    · have := Nat.le_of_ble_eq_true hd; omega
/-- the world: shape of the heap, facts by number, what each fact reads -/
noncomputable abbrev AW : Type := { w : List AE × (Nat → pm_H → Prop) × (Nat → List Rng) // ∀ (i : Nat) (h h' : pm_H), hs_g w.1 h → hs_g w.1 h' → (∀ a k, rg_in (w.2.2 i) a k = true → ld h' a k = ld h a k) → w.2.1 i h → w.2.1 i h' }
/-- two lists, element by element -/
noncomputable def f2 {α β : Type} (R : α → β → Prop) : List α → List β → Prop
  | [], [] => True
  | a :: l, b :: m => R a b ∧ f2 R l m
  | _, _ => False
theorem f2_cons {α β : Type} {R : α → β → Prop} {a : α} {l : List α} {m : List β} (h : f2 R (a :: l) m) : ∃ b m', m = b :: m' ∧ R a b ∧ f2 R l m' := by
  cases m with
  | nil => exact h.elim
  | cons b m' => exact ⟨b, m', rfl, h.1, h.2⟩
theorem f2_mono {α β : Type} {R S : α → β → Prop} (hRS : ∀ a b, R a b → S a b) : ∀ {l : List α} {m : List β}, f2 R l m → f2 S l m
  | [], [], _ => trivial
  | [], _ :: _, h => h.elim
  | _ :: _, [], h => h.elim
  | _ :: _, _ :: _, h => ⟨hRS _ _ h.1, f2_mono hRS h.2⟩
/-- what is known of numbers in cells -/
noncomputable abbrev Mem : Type := List ((Nat × Nat) × AV)
/-- a sum of two symbols is a third; a symbol is at most another and a number -/
noncomputable abbrev Con : Type := (Nat × Nat × Nat) ⊕ (Nat × Nat × Int)
noncomputable def con_g (n : Nat) (ρ : Nat → Int) (c : Con) : Prop := match c with
  | .inl (s, a, b) => s < n ∧ a < n ∧ b < n ∧ ρ s = ρ a + ρ b
  | .inr (a, b, c) => a < n ∧ b < n ∧ ρ a ≤ ρ b + c
theorem con_g_mono {n n' : Nat} {ρ ρ' : Nat → Int} {c : Con} (hn : n ≤ n') (hρ : ∀ q, q < n → ρ' q = ρ q) (h : con_g n ρ c) : con_g n' ρ' c := by
  rcases c with ⟨s, a, b⟩ | ⟨a, b, c⟩
  · obtain ⟨h1, h2, h3, h4⟩ := h
    exact ⟨Nat.lt_of_lt_of_le h1 hn, Nat.lt_of_lt_of_le h2 hn, Nat.lt_of_lt_of_le h3 hn, by rw [hρ s h1, hρ a h2, hρ b h3]; exact h4⟩
  · obtain ⟨h1, h2, h4⟩ := h
    exact ⟨Nat.lt_of_lt_of_le h1 hn, Nat.lt_of_lt_of_le h2 hn, by rw [hρ a h1, hρ b h2]; exact h4⟩
/-- memory, relations, facts that hold, what may be stored to, locals that stay -/
noncomputable abbrev AX : Type := Mem × List Con × List Nat × List Rng × List Nat
/-- states: place in the code, locals, stack, intervals, and the rest -/
noncomputable abbrev AS : Type := Nat × List (Nat × AV) × List AV × IV × AX
noncomputable def ex_g (w : AW) (E : AEnv) (n : Nat) (ρ : Nat → Int) (x : AX) (cl : List (Nat × Value)) (h : pm_H) : Prop :=
  hs_g w.1.1 h ∧ (∀ q a, (q, a) ∈ x.1 → ∃ v, ld h q.1 q.2 = some v ∧ av_g n ρ a v) ∧ (∀ c ∈ x.2.1, con_g n ρ c) ∧ (∀ i ∈ x.2.2.1, w.1.2.1 i h) ∧ (∀ a k, rg_in x.2.2.2.1 a k = false → ld h a k = ld E.2.2.1 a k) ∧ ∀ i ∈ x.2.2.2.2, pm_get cl i = pm_get E.2.2.2 i
theorem ex_g_mono {w : AW} {E : AEnv} {n n' : Nat} {ρ ρ' : Nat → Int} {x : AX} {cl : List (Nat × Value)} {h : pm_H} (hn : n ≤ n') (hρ : ∀ q, q < n → ρ' q = ρ q) (g : ex_g w E n ρ x cl h) : ex_g w E n' ρ' x cl h := by
  obtain ⟨g1, g2, g3, g4, g5, g6⟩ := g
  refine ⟨g1, fun q a hm => ?_, fun c hc => con_g_mono hn hρ (g3 c hc), g4, g5, g6⟩
  obtain ⟨v, e1, e2⟩ := g2 q a hm
  exact ⟨v, e1, av_g_mono hn hρ e2⟩
/-- what a state says, its symbols standing for given numbers -/
noncomputable def as_r (w : AW) (E : AEnv) (ρ : Nat → Int) (A : AS) (σ : pm_S) : Prop := ia_g E ρ A.2.2.2.1 ∧ σ.1 = A.1 ∧ (∀ i a, (i, a) ∈ A.2.1 → ∃ v, pm_get σ.2.1 i = some v ∧ av_g A.2.2.2.1.length ρ a v) ∧ f2 (fun a v => av_g A.2.2.2.1.length ρ a v) A.2.2.1 σ.2.2.1 ∧ ex_g w E A.2.2.2.1.length ρ A.2.2.2.2 σ.2.1 σ.2.2.2.1
end
