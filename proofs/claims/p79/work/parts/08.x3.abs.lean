/-! THE EXECUTOR, part 3: numbers -/
theorem ai_bmod {v : Int} (h1 : -2147483648 ≤ v) (h2 : v ≤ 2147483647) : v.bmod (2 ^ 32) = v := by
  unfold Int.bmod
  have e : ((2 ^ 32 : Nat) : Int) = 4294967296 := rfl
  simp only [e]
  split <;> omega
theorem ai_lo (x : Int32) : -2147483648 ≤ x.toInt := by have := Int32.le_toInt x; omega
theorem ai_hi (x : Int32) : x.toInt ≤ 2147483647 := by have := Int32.toInt_lt x; omega
theorem ai_add {x y : Int32} (h1 : -2147483648 ≤ x.toInt + y.toInt) (h2 : x.toInt + y.toInt ≤ 2147483647) : (x + y).toInt = x.toInt + y.toInt := by
  rw [Int32.toInt_add]; exact ai_bmod h1 h2
theorem ai_sub {x y : Int32} (h1 : -2147483648 ≤ x.toInt - y.toInt) (h2 : x.toInt - y.toInt ≤ 2147483647) : (x - y).toInt = x.toInt - y.toInt := by
  rw [Int32.toInt_sub]; exact ai_bmod h1 h2
theorem ai_mul {x y : Int32} (h1 : -2147483648 ≤ x.toInt * y.toInt) (h2 : x.toInt * y.toInt ≤ 2147483647) : (x * y).toInt = x.toInt * y.toInt := by
  rw [Int32.toInt_mul]; exact ai_bmod h1 h2
/-- within the ints -/
def ai_in (lo hi : Int) : Bool := decide (-2147483648 ≤ lo) && decide (hi ≤ 2147483647)
theorem ai_in_ok {lo hi : Int} (h : ai_in lo hi = true) : -2147483648 ≤ lo ∧ hi ≤ 2147483647 := by
  simpa [ai_in, Bool.and_eq_true, decide_eq_true_eq] using h
section AIN
variable {hs : List AE}
def a_inc (i : Nat) (d : Int32) (n : Nat) : AS → Option (List AS) := fun A => match as_get A.2.1 i with
  | some (.inl (k, o)) => match iv_rng A.2.2.2 k o with
    | some (lo, hi) => bif ai_in (lo + d.toInt) (hi + d.toInt) then some [(n, as_put1 i (.inl (k, (o + d.toInt))) A.2.1, A.2.2.1, A.2.2.2)] else none
    | none => none
  | _ => none
theorem av_ev_add {n : Nat} {ρ : Nat → Int} {k : Option Nat} {o v d : Int} (h : av_ev n ρ k o v) : av_ev n ρ k (o + d) (v + d) := by
  cases k with
  | none => exact congrArg (· + d) h
  | some k => exact ⟨h.1, by have := h.2; show v + d = ρ k + (o + d); omega⟩
theorem a_inc_ok (i : Nat) (d : Int32) (n : Nat) : ai_ok hs (s_inc i d n) (a_inc i d n) := by
  rintro E ⟨pc, lv, st, iv⟩ ⟨pc', cl, cs, w⟩ As ⟨ρ, g1, g2, g3, g4, g5⟩ h
  simp only [a_inc] at h
  split at h
  · rename_i k o e
    split at h
    · rename_i lo hi er
      cases hb : ai_in (lo + d.toInt) (hi + d.toInt) with
      | false => rw [hb] at h; cases h
      | true =>
        rw [hb] at h
        cases h
        obtain ⟨v, e1, e2⟩ := g3 i _ (as_get_in e)
        cases v with
        | int x =>
          have hr := iv_rng_ok g1 e2 er
          have hi2 := ai_in_ok hb
          have hx : (x + d).toInt = x.toInt + d.toInt := ai_add (by omega) (by omega)
          refine ⟨(n, pm_put1 i (.int (x + d)) cl, cs, w), by simp only [s_inc]; simp only at e1; rw [e1], _, List.mem_singleton_self _, ρ, g1, rfl, as_put1_ok g3 ?_, g4, g5⟩
          show av_ev iv.length ρ k (o + d.toInt) (x + d).toInt
          rw [hx]
          exact av_ev_add e2
        | _ => exact e2.elim
    · cases h
  · cases h
/-- an answer in bounds: a fresh symbol -/
def ai_new (n : Nat) (lv : List (Nat × AV)) (st : List AV) (iv : IV) (lo hi : Int) : Option (List AS) := some [(n, lv, .inl ((some iv.length), 0) :: st, iv ++ [(lo, hi)])]
theorem ai_new_ok {E : AEnv} {n : Nat} {lv : List (Nat × AV)} {st : List AV} {iv : IV} {lo hi : Int} {ρ : Nat → Int} {cl : List (Nat × Value)} {cs : List Value} {w : pm_H × Nat × Nat} {v : Int32} {As : List AS} (h : ai_new n lv st iv lo hi = some As)
    (g1 : ia_g E ρ iv) (g3 : ∀ i a, (i, a) ∈ lv → ∃ v, pm_get cl i = some v ∧ av_g iv.length ρ a v) (g4 : f2 (fun a v => av_g iv.length ρ a v) st cs) (g5 : hs_g hs w.1) (h1 : lo ≤ v.toInt) (h2 : v.toInt ≤ hi) :
    ∃ A' ∈ As, as_g hs E A' (n, cl, .int v :: cs, w) := by
  cases h
  exact ⟨_, List.mem_singleton_self _, as_fresh (pc := n) h1 h2 ⟨ρ, g1, rfl, g3, g4, g5⟩⟩
/-- sums: known offsets stay symbolic -/
def ai_bnd (lo hi : Int) : Int × Int := bif ai_in lo hi then (lo, hi) else (-2147483648, 2147483647)
theorem ai_bnd_add {x y : Int32} {lo hi : Int} (h1 : lo ≤ x.toInt + y.toInt) (h2 : x.toInt + y.toInt ≤ hi) : (ai_bnd lo hi).1 ≤ (x + y).toInt ∧ (x + y).toInt ≤ (ai_bnd lo hi).2 := by
  unfold ai_bnd
  cases hb : ai_in lo hi with
  | false => exact ⟨ai_lo _, ai_hi _⟩
  | true =>
    have := ai_in_ok hb
    rw [ai_add (by omega) (by omega)]
    exact ⟨h1, h2⟩
theorem ai_bnd_sub {x y : Int32} {lo hi : Int} (h1 : lo ≤ x.toInt - y.toInt) (h2 : x.toInt - y.toInt ≤ hi) : (ai_bnd lo hi).1 ≤ (x - y).toInt ∧ (x - y).toInt ≤ (ai_bnd lo hi).2 := by
  unfold ai_bnd
  cases hb : ai_in lo hi with
  | false => exact ⟨ai_lo _, ai_hi _⟩
  | true =>
    have := ai_in_ok hb
    rw [ai_sub (by omega) (by omega)]
    exact ⟨h1, h2⟩
def a_add (n : Nat) : AS → Option (List AS) := fun A => match A.2.2.1 with
  | .inl (k2, o2) :: .inl (k1, o1) :: st => match iv_rng A.2.2.2 k1 o1, iv_rng A.2.2.2 k2 o2 with
    | some (l1, u1), some (l2, u2) => match k2, ai_in (l1 + l2) (u1 + u2) with
      | none, true => some [(n, A.2.1, .inl (k1, (o1 + o2)) :: st, A.2.2.2)]
      | _, _ => ai_new n A.2.1 st A.2.2.2 (ai_bnd (l1 + l2) (u1 + u2)).1 (ai_bnd (l1 + l2) (u1 + u2)).2
    | _, _ => none
  | _ => none
theorem a_add_ok (n : Nat) : ai_ok hs (s_bin (fun x y => x + y) n) (a_add n) := by
  rintro E ⟨pc, lv, st, iv⟩ ⟨pc', cl, cs, w⟩ As ⟨ρ, g1, g2, g3, g4, g5⟩ h
  simp only [a_add] at h
  split at h
  · rename_i k2 o2 k1 o1 st'
    split at h
    · rename_i l1 u1 l2 u2 r1 r2
      obtain ⟨v, cs, rfl, ha, hr0⟩ := f2_cons g4
      ·
        obtain ⟨u, cs, rfl, hc, hr⟩ := f2_cons hr0
        ·
          cases v with
          | int y =>
            cases u with
            | int x =>
              have b1 := iv_rng_ok g1 hc r1
              have b2 := iv_rng_ok g1 ha r2
              refine ⟨(n, cl, .int (x + y) :: cs, w), rfl, ?_⟩
              split at h
              · rename_i hb
                cases h
                have hi2 := ai_in_ok hb
                refine ⟨_, List.mem_singleton_self _, ρ, g1, rfl, g3, ⟨?_, hr⟩, g5⟩
                have hy : y.toInt = o2 := ha
                show av_ev iv.length ρ k1 (o1 + o2) (x + y).toInt
                rw [ai_add (by omega) (by omega), hy]
                exact av_ev_add hc
              · have hq := ai_bnd_add (x := x) (y := y) (lo := l1 + l2) (hi := u1 + u2) (by omega) (by omega)
                exact ai_new_ok h g1 g3 hr g5 hq.1 hq.2
            | _ => exact hc.elim
          | _ => exact ha.elim
    · cases h
  · cases h
end AIN
