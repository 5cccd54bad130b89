section
section AIO
variable {w : AW}
noncomputable def fb_rem (l1 u1 _ u2 : Int) : Int × Int := bif decide (0 ≤ l1) then (0, min u1 (u2 - 1)) else (-(u2 - 1), u2 - 1)
theorem fb_rem_ok : bd_ok (fun x y => x - x / y * y) fb_rem := by
  intro x y l1 u1 l2 u2 h0 h1 h2 h3 h4
  unfold fb_rem
  have hy : 0 < y.toInt := by omega
  have t1 := Int.tmod_lt_of_pos x.toInt hy
  have t2 := Int.lt_tmod_of_pos x.toInt hy
  cases hb : decide (0 ≤ l1) with
  | false =>
    show -(u2 - 1) ≤ (x - x / y * y).toInt ∧ (x - x / y * y).toInt ≤ u2 - 1
    rw [ai_rem hy]
    omega
  | true =>
    have hb := of_decide_eq_true hb
    have a := Int.tmod_nonneg (a := x.toInt) y.toInt (by omega)
    have d := Int.tmod_def x.toInt y.toInt
    have c := Int.mul_nonneg (Int.le_of_lt hy) (Int.tdiv_nonneg (a := x.toInt) (b := y.toInt) (by omega) (by omega))
    show 0 ≤ (x - x / y * y).toInt ∧ (x - x / y * y).toInt ≤ min u1 (u2 - 1)
    rw [ai_rem hy]
    omega
end AIO
end
section
/-! THE EXECUTOR (second writing), part 6: sums, longs, branches -/
section AIQ
variable {w : AW}
theorem av_ev_add {n : Nat} {ρ : Nat → Int} {k : Option Nat} {o v d : Int} (h : av_ev n ρ k o v) : av_ev n ρ k (o + d) (v + d) := by
  cases k with
  | none => exact congrArg (· + d) h
  | some k => exact ⟨h.1, by have := h.2; show v + d = ρ k + (o + d); omega⟩
theorem av_ev_sub {n : Nat} {ρ : Nat → Int} {k : Option Nat} {o v d : Int} (h : av_ev n ρ k o v) : av_ev n ρ k (o - d) (v - d) := by
  rw [show o - d = o + -d by omega, show v - d = v + -d by omega]
  exact av_ev_add h
/-- the symbol of a sum that is known -/
noncomputable def con_sum (cs : List Con) (a b : Nat) : Option Nat := match cs with
  | [] => none
  | .inl (s, p, q) :: l => bif (Nat.beq p a && Nat.beq q b) || (Nat.beq p b && Nat.beq q a) then some s else con_sum l a b
  | _ :: l => con_sum l a b
theorem con_sum_ok {n : Nat} {ρ : Nat → Int} {a b s : Nat} : ∀ {cs : List Con}, (∀ c ∈ cs, con_g n ρ c) → con_sum cs a b = some s → s < n ∧ ρ s = ρ a + ρ b
  | [], _, h => by cases h
  | .inr _ :: l, hc, h => con_sum_ok (cs := l) (fun c hm => hc c (List.mem_cons_of_mem _ hm)) h
  | .inl (s', p, q) :: l, hc, h => by
    unfold con_sum at h
    cases hb : ((Nat.beq p a && Nat.beq q b) || (Nat.beq p b && Nat.beq q a)) with
    | false =>
      rw [hb] at h
      exact con_sum_ok (cs := l) (fun c hm => hc c (List.mem_cons_of_mem _ hm)) h
    | true =>
      rw [hb] at h
      cases h
      obtain ⟨h1, h2, h3, h4⟩ := hc _ List.mem_cons_self
      simp only [Bool.or_eq_true, Bool.and_eq_true] at hb
      rcases hb with ⟨e1, e2⟩ | ⟨e1, e2⟩
      · have e1 := Nat.eq_of_beq_eq_true e1
        have e2 := Nat.eq_of_beq_eq_true e2
        subst e1; subst e2
        exact ⟨h1, h4⟩
      · have e1 := Nat.eq_of_beq_eq_true e1
        have e2 := Nat.eq_of_beq_eq_true e2
        subst e1; subst e2
        exact ⟨h1, by omega⟩
/-- the symbol of a difference that is known -/
noncomputable def con_dif (cs : List Con) (a b : Nat) : Option Nat := match cs with
  | [] => none
  | .inl (s, p, q) :: l => bif Nat.beq s a && Nat.beq q b then some p else (bif Nat.beq s a && Nat.beq p b then some q else con_dif l a b)
  | _ :: l => con_dif l a b
theorem con_dif_ok {n : Nat} {ρ : Nat → Int} {a b s : Nat} : ∀ {cs : List Con}, (∀ c ∈ cs, con_g n ρ c) → con_dif cs a b = some s → s < n ∧ ρ s = ρ a - ρ b
  | [], _, h => by cases h
  | .inr _ :: l, hc, h => con_dif_ok (cs := l) (fun c hm => hc c (List.mem_cons_of_mem _ hm)) h
  | .inl (s', p, q) :: l, hc, h => by
    unfold con_dif at h
    obtain ⟨h1, h2, h3, h4⟩ := hc _ List.mem_cons_self
    cases hb : (Nat.beq s' a && Nat.beq q b) with
    | true =>
      rw [hb] at h
      cases h
      rw [Bool.and_eq_true] at hb
      have e1 := Nat.eq_of_beq_eq_true hb.1
      have e2 := Nat.eq_of_beq_eq_true hb.2
      subst e1; subst e2
      exact ⟨h2, by omega⟩
    | false =>
      rw [hb, cond_false] at h
      cases hd : (Nat.beq s' a && Nat.beq p b) with
      | true =>
        rw [hd] at h
        cases h
        rw [Bool.and_eq_true] at hd
        have e1 := Nat.eq_of_beq_eq_true hd.1
        have e2 := Nat.eq_of_beq_eq_true hd.2
        subst e1; subst e2
        exact ⟨h3, by omega⟩
      | false =>
        rw [hd] at h
        exact con_dif_ok (cs := l) (fun c hm => hc c (List.mem_cons_of_mem _ hm)) h
/-- bounds of a difference by relations -/
noncomputable def con_lo (cs : List Con) (a b : Nat) (lo : Int) : Int := match cs with
  | [] => lo
  | .inr (p, q, c) :: l => con_lo l a b (bif Nat.beq p b && Nat.beq q a then max lo (-c) else lo)
  | _ :: l => con_lo l a b lo
noncomputable def con_hi (cs : List Con) (a b : Nat) (hi : Int) : Int := match cs with
  | [] => hi
  | .inr (p, q, c) :: l => con_hi l a b (bif Nat.beq p a && Nat.beq q b then min hi c else hi)
  | _ :: l => con_hi l a b hi
theorem con_lo_ok {n : Nat} {ρ : Nat → Int} {a b : Nat} : ∀ {cs : List Con} {lo : Int}, (∀ c ∈ cs, con_g n ρ c) → lo ≤ ρ a - ρ b → con_lo cs a b lo ≤ ρ a - ρ b
  | [], _, _, h => h
  | .inl _ :: l, _, hc, h => con_lo_ok (cs := l) (fun c hm => hc c (List.mem_cons_of_mem _ hm)) h
  | .inr (p, q, c) :: l, lo, hc, h => by
    refine con_lo_ok (cs := l) (fun c hm => hc c (List.mem_cons_of_mem _ hm)) ?_
    cases hb : (Nat.beq p b && Nat.beq q a) with
    | false => exact h
    | true =>
      rw [Bool.and_eq_true] at hb
      have e1 := Nat.eq_of_beq_eq_true hb.1
      have e2 := Nat.eq_of_beq_eq_true hb.2
      subst e1; subst e2
      have := (hc _ List.mem_cons_self).2.2
      show max lo (-c) ≤ _
      omega
theorem con_hi_ok {n : Nat} {ρ : Nat → Int} {a b : Nat} : ∀ {cs : List Con} {hi : Int}, (∀ c ∈ cs, con_g n ρ c) → ρ a - ρ b ≤ hi → ρ a - ρ b ≤ con_hi cs a b hi
  | [], _, _, h => h
  | .inl _ :: l, _, hc, h => con_hi_ok (cs := l) (fun c hm => hc c (List.mem_cons_of_mem _ hm)) h
  | .inr (p, q, c) :: l, hi, hc, h => by
    refine con_hi_ok (cs := l) (fun c hm => hc c (List.mem_cons_of_mem _ hm)) ?_
    cases hb : (Nat.beq p a && Nat.beq q b) with
    | false => exact h
    | true =>
      rw [Bool.and_eq_true] at hb
      have e1 := Nat.eq_of_beq_eq_true hb.1
      have e2 := Nat.eq_of_beq_eq_true hb.2
      subst e1; subst e2
      have := (hc _ List.mem_cons_self).2.2
      show _ ≤ min hi c
      omega
/-- a fresh symbol that stands in a sum -/
noncomputable def a_pc (n : Nat) (lv : List (Nat × AV)) (st : List AV) (iv : IV) (ex : AX) (lo hi o : Int) (c : Nat → Con) : AS := bif decide (lo = hi) then (n, lv, .inl (none, lo + o) :: st, iv, ex) else (n, lv, .inl (some iv.length, o) :: st, iv ++ [(lo, hi)], ex.1, c iv.length :: ex.2.1, ex.2.2)
end AIQ
end
