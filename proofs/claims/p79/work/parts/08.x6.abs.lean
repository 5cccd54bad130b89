/-! THE EXECUTOR, part 6: calls, returns, runs -/
/-- an abstract value lies in a kind -/
def cv_le (iv : IV) (a : AV) (c : CV) : Bool := match a, c with
  | .inl (k, o), .inl (lo, hi) => match iv_rng iv k o with | some (l, u) => decide (lo ≤ l) && decide (u ≤ hi) | none => false
  | .inr (.inl (k, o)), .inr (.inl (lo, hi)) => match iv_rng iv k o with | some (l, u) => decide (lo ≤ l) && decide (u ≤ hi) | none => false
  | .inr (.inr (.inl a)), .inr (.inr (.inl a')) => Nat.beq a a'
  | .inr (.inr (.inr (.inl a))), .inr (.inr (.inr (.inl a'))) => Nat.beq a a'
  | .inr (.inr (.inr (.inr ()))), .inr (.inr (.inr (.inr ()))) => true
  | _, _ => false
theorem cv_le_ok {E : AEnv} {n : Nat} {ρ : Nat → Int} {iv : IV} {a : AV} {c : CV} {v : Value} (g : ia_g E ρ iv) (hv : av_g n ρ a v) (h : cv_le iv a c = true) : cv_g c v := by
  unfold cv_le at h
  split at h
  · split at h
    · rename_i l u hr
      simp only [Bool.and_eq_true, decide_eq_true_eq] at h
      cases v with
      | int x => have := iv_rng_ok g hv hr; exact ⟨by omega, by omega⟩
      | _ => exact hv.elim
    · cases h
  · split at h
    · rename_i l u hr
      simp only [Bool.and_eq_true, decide_eq_true_eq] at h
      cases v with
      | long x => have := iv_rng_ok g hv hr; exact ⟨by omega, by omega⟩
      | _ => exact hv.elim
    · cases h
  · have h := Nat.eq_of_beq_eq_true h
    subst h
    cases v <;> first | exact hv | exact hv.elim
  · have h := Nat.eq_of_beq_eq_true h
    subst h
    cases v <;> first | exact hv | exact hv.elim
  · cases v <;> first | exact hv | exact hv.elim
  · cases h
def cvs_le (iv : IV) : List AV → List CV → Bool
  | [], [] => true
  | a :: l, c :: m => cv_le iv a c && cvs_le iv l m
  | _, _ => false
theorem cvs_le_ok {E : AEnv} {n : Nat} {ρ : Nat → Int} {iv : IV} (g : ia_g E ρ iv) : ∀ {l : List AV} {m : List CV} {vs : List Value}, f2 (fun a v => av_g n ρ a v) l vs → cvs_le iv l m = true → f2 cv_g m vs
  | [], [], [], _, _ => trivial
  | [], [], _ :: _, h, _ => h.elim
  | [], _ :: _, _, _, h => by cases h
  | _ :: _, [], _, _, h => by cases h
  | _ :: _, _ :: _, [], h, _ => h.elim
  | a :: l, c :: m, v :: vs, hl, h => by
    unfold cvs_le at h
    rw [Bool.and_eq_true] at h
    exact ⟨cv_le_ok g hl.1 h.1, cvs_le_ok g hl.2 h.2⟩
/-- what is known of a method's runs: number, kinds of the arguments, kind of the answer -/
abbrev Sum1 : Type := Nat × List CV × Option CV
def rt_g (c : Option CV) (r : Option Value) : Prop := match c, r with
  | none, none => True
  | some c, some v => cv_g c v
  | _, _ => False
def sum_g (hs : List AE) (call : pm_Call) (S : Sum1) : Prop := ∀ (h : pm_H) (as : List Value), hs_g hs h → f2 cv_g S.2.1 as → ∃ h' r, call S.1 h as h' r ∧ hs_g hs h' ∧ rt_g S.2.2 r
/-- a value of a kind, as an abstract one -/
def ci_av (c : CV) (iv : IV) : AV × IV := match c with
  | .inl (lo, hi) => (.inl ((some iv.length), 0), iv ++ [(lo, hi)])
  | .inr (.inl (lo, hi)) => (.inr (.inl ((some iv.length), 0)), iv ++ [(lo, hi)])
  | .inr (.inr (.inl a)) => (.inr (.inr (.inl a)), iv)
  | .inr (.inr (.inr (.inl k))) => (.inr (.inr (.inr (.inl k))), iv)
  | .inr (.inr (.inr (.inr ()))) => (.inr (.inr (.inr (.inr ()))), iv)
theorem ci_av_ok {E : AEnv} {ρ : Nat → Int} {c : CV} {iv : IV} {v : Value} (g : ia_g E ρ iv) (hv : cv_g c v) :
    ∃ ρ', ia_g E ρ' (ci_av c iv).2 ∧ iv.length ≤ (ci_av c iv).2.length ∧ (∀ k, k < iv.length → ρ' k = ρ k) ∧ av_g (ci_av c iv).2.length ρ' (ci_av c iv).1 v := by
  rcases c with ⟨lo, hi⟩ | ⟨lo, hi⟩ | a | a | ⟨⟩
  · cases v with
    | int x =>
      refine ⟨iv_ext ρ iv.length x.toInt, ia_push g hv.1 hv.2, ?_, iv_ext_old, ?_, ?_⟩
      · show iv.length ≤ (iv ++ [(lo, hi)]).length
        rw [List.length_append]; exact Nat.le_add_right _ _
      · show iv.length < (iv ++ [(lo, hi)]).length
        rw [List.length_append]; exact Nat.lt_succ_self _
      · rw [iv_ext_new, Int.add_zero]
    | _ => exact hv.elim
  · cases v with
    | long x =>
      refine ⟨iv_ext ρ iv.length x.toInt, ia_push g hv.1 hv.2, ?_, iv_ext_old, ?_, ?_⟩
      · show iv.length ≤ (iv ++ [(lo, hi)]).length
        rw [List.length_append]; exact Nat.le_add_right _ _
      · show iv.length < (iv ++ [(lo, hi)]).length
        rw [List.length_append]; exact Nat.lt_succ_self _
      · rw [iv_ext_new, Int.add_zero]
    | _ => exact hv.elim
  · exact ⟨ρ, g, Nat.le_refl _, fun _ _ => rfl, by cases v <;> first | exact hv | exact hv.elim⟩
  · exact ⟨ρ, g, Nat.le_refl _, fun _ _ => rfl, by cases v <;> first | exact hv | exact hv.elim⟩
  · exact ⟨ρ, g, Nat.le_refl _, fun _ _ => rfl, by cases v <;> first | exact hv | exact hv.elim⟩
