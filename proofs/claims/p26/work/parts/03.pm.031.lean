section
noncomputable def av_g (n : Nat) (ρ : Nat → Int) (a : AV) (v : Value) : Prop := match a, v with
  | .inl (k, o), .int x => av_ev n ρ k o x.toInt
  | .inr (.inl (k, o)), .long x => av_ev n ρ k o x.toInt
  | .inr (.inr (.inl a)), .ref a' => a' = a
  | .inr (.inr (.inr (.inl k))), .retAddr k' => k' = k
  | .inr (.inr (.inr (.inr ()))), .null => True
  | _, _ => False
noncomputable def cv_g (c : CV) (v : Value) : Prop := match c, v with
  | .inl (lo, hi), .int x => lo ≤ x.toInt ∧ x.toInt ≤ hi
  | .inr (.inl (lo, hi)), .long x => lo ≤ x.toInt ∧ x.toInt ≤ hi
  | .inr (.inr (.inl a)), .ref a' => a' = a
  | .inr (.inr (.inr (.inl k))), .retAddr k' => k' = k
  | .inr (.inr (.inr (.inr ()))), .null => True
  | _, _ => False
noncomputable def av_cat (a : AV) : Nat := match a with
  | .inr (.inl (_, _)) => 2
  | _ => 1
theorem av_cat_eq {n : Nat} {ρ : Nat → Int} {a : AV} {v : Value} (h : av_g n ρ a v) : v.category = av_cat a := by
  rcases a with ⟨k, o⟩ | ⟨k, o⟩ | a | k | ⟨⟩ <;> cases v <;> first | rfl | exact h.elim
theorem av_ev_mono {n n' : Nat} {ρ ρ' : Nat → Int} {k : Option Nat} {o v : Int} (hn : n ≤ n') (hρ : ∀ q, q < n → ρ' q = ρ q) (h : av_ev n ρ k o v) : av_ev n' ρ' k o v := by
  cases k with
  | none => exact h
  | some k => exact ⟨Nat.lt_of_lt_of_le h.1 hn, by rw [hρ k h.1]; exact h.2⟩
theorem av_g_mono {n n' : Nat} {ρ ρ' : Nat → Int} {a : AV} {v : Value} (hn : n ≤ n') (hρ : ∀ q, q < n → ρ' q = ρ q) (h : av_g n ρ a v) : av_g n' ρ' a v := by
  rcases a with ⟨k, o⟩ | ⟨k, o⟩ | a | k | ⟨⟩ <;> cases v <;> first | exact av_ev_mono hn hρ h | exact h
theorem av_int {n : Nat} {ρ : Nat → Int} {k : Option Nat} {o : Int} {v : Value} (h : av_g n ρ (.inl (k, o)) v) : ∃ x : Int32, v = .int x ∧ av_ev n ρ k o x.toInt := by
  cases v with
  | int x => exact ⟨x, rfl, h⟩
  | _ => exact h.elim
theorem av_long {n : Nat} {ρ : Nat → Int} {k : Option Nat} {o : Int} {v : Value} (h : av_g n ρ (.inr (.inl (k, o))) v) : ∃ x : Int64, v = .long x ∧ av_ev n ρ k o x.toInt := by
  cases v with
  | long x => exact ⟨x, rfl, h⟩
  | _ => exact h.elim
theorem av_ref {n : Nat} {ρ : Nat → Int} {a : Nat} {v : Value} (h : av_g n ρ (.inr (.inr (.inl a))) v) : v = .ref a := by
  cases v with
  | ref x => exact congrArg Value.ref h
  | _ => exact h.elim
theorem av_out {n : Nat} {ρ : Nat → Int} {a : Nat} {v : Value} (h : av_g n ρ (.inr (.inr (.inr (.inl a)))) v) : v = .retAddr a := by
  cases v with
  | retAddr x => exact congrArg Value.retAddr h
  | _ => exact h.elim
noncomputable abbrev IV : Type := List (Int × Int)
noncomputable def iv_g (ρ : Nat → Int) (iv : IV) : Prop := ∀ k lo hi, iv[k]? = some (lo, hi) → lo ≤ ρ k ∧ ρ k ≤ hi
/-- a fresh symbol -/
noncomputable def iv_ext (ρ : Nat → Int) (n : Nat) (v : Int) : Nat → Int := fun q => bif Nat.beq q n then v else ρ q
theorem iv_ext_old {ρ : Nat → Int} {n : Nat} {v : Int} (q : Nat) (h : q < n) : iv_ext ρ n v q = ρ q := by
  unfold iv_ext
  cases hb : Nat.beq q n with
  | false => rfl
  | true => have := Nat.eq_of_beq_eq_true hb; omega
theorem iv_ext_new {ρ : Nat → Int} {n : Nat} {v : Int} : iv_ext ρ n v n = v := by
  unfold iv_ext; rw [Nat.beq_refl]; rfl
theorem iv_push {ρ : Nat → Int} {iv : IV} {v lo hi : Int} (h : iv_g ρ iv) (h1 : lo ≤ v) (h2 : v ≤ hi) : iv_g (iv_ext ρ iv.length v) (iv ++ [(lo, hi)]) := by
  intro k l u hk
  by_cases hlt : k < iv.length
  · rw [List.getElem?_append_left hlt] at hk
    rw [iv_ext_old k hlt]
    exact h k l u hk
  · have hk' := hk
    rw [List.getElem?_append_right (by omega)] at hk'
    have h0 : k - iv.length = 0 := by
      cases hd : k - iv.length with
      | zero => rfl
      | succ d => rw [hd] at hk'; cases hk'
    have he : k = iv.length := by omega
    subst he
    rw [h0] at hk'
    cases hk'
    rw [iv_ext_new]
    exact ⟨h1, h2⟩
/-- symbols that a segment began with (they keep what they stood for), the heap and the locals at the method's entry -/
noncomputable abbrev AEnv : Type := Nat × (Nat → Int) × pm_H × List (Nat × Value)
noncomputable def ia_g (E : AEnv) (ρ : Nat → Int) (iv : IV) : Prop := iv_g ρ iv ∧ E.1 ≤ iv.length ∧ ∀ k, k < E.1 → ρ k = E.2.1 k
theorem ia_push {E : AEnv} {ρ : Nat → Int} {iv : IV} {v lo hi : Int} (h : ia_g E ρ iv) (h1 : lo ≤ v) (h2 : v ≤ hi) : ia_g E (iv_ext ρ iv.length v) (iv ++ [(lo, hi)]) :=
  ⟨iv_push h.1 h1 h2, by rw [List.length_append]; exact Nat.le_trans h.2.1 (Nat.le_add_right _ _), fun k hk => (iv_ext_old k (Nat.lt_of_lt_of_le hk h.2.1)).trans (h.2.2 k hk)⟩
/-- the interval of a term -/
noncomputable def iv_rng (iv : IV) (k : Option Nat) (o : Int) : Option (Int × Int) := match k with
  | none => some (o, o)
  | some k => match iv[k]? with
    | some (lo, hi) => some (lo + o, hi + o)
    | none => none
theorem iv_rng_ok {E : AEnv} {n : Nat} {ρ : Nat → Int} {iv : IV} {k : Option Nat} {o v lo hi : Int} (h : ia_g E ρ iv) (hv : av_ev n ρ k o v) (hr : iv_rng iv k o = some (lo, hi)) : lo ≤ v ∧ v ≤ hi := by
  cases k with
  | none =>
    cases hr
    obtain rfl : v = o := hv
    omega
  | some k =>
    unfold iv_rng at hr
    simp only at hr
    split at hr
    · rename_i a b e
      cases hr
      have h1 := h.1 k a b e
      have h2 := hv.2
      omega
    · cases hr
noncomputable abbrev AF : Type := (Int × Int) ⊕ (Unit ⊕ (Nat ⊕ Unit))
noncomputable def af_g (c : AF) (v : Value) : Prop := match c, v with
  | .inl (lo, hi), .int x => lo ≤ x.toInt ∧ x.toInt ≤ hi
  | .inr (.inl ()), .long _ => True
  | .inr (.inr (.inl a)), .ref a' => a' = a
  | .inr (.inr (.inr ())), .null => True
  | _, _ => False
/-- cells: arrays of ints (class, length, bounds of the elements, again and again), of longs, of references; objects -/
noncomputable abbrev AE : Type := (Nat × Nat × List (Int × Int)) ⊕ (Nat ⊕ ((Nat × List (Option Nat)) ⊕ (Nat × List AF)))
noncomputable def pat_at (p : List (Int × Int)) (j : Nat) : Option (Int × Int) := p[j % p.length]?
noncomputable def ae_g (c : AE) (x : pm_E) : Prop := match c, x with
  | .inl (t, len, p), .inl (t', len', .inl f) => t' = t ∧ len' = len ∧ ∀ j lo hi, pat_at p j = some (lo, hi) → lo ≤ (f j).toInt ∧ (f j).toInt ≤ hi
  | .inr (.inl len), .inl (t', len', .inr (.inl _)) => t' = 3 ∧ len' = len
  | .inr (.inr (.inl (t, fs))), .inl (t', len', .inr (.inr (.inr (.inr f)))) => t' = t ∧ len' = fs.length ∧ ∀ (j : Nat) (y : Option Nat), fs[j]? = some y → f j = y
  | .inr (.inr (.inr (ci, fs))), .inr (cj, vs) => cj = ci ∧ vs.length = fs.length ∧ ∀ (k : Nat) (c : AF) (v : Value), fs[k]? = some c → vs[k]? = some v → af_g c v
  | _, _ => False
end
