section
section AIS
variable {w : AW}
noncomputable def a_goto (t : Nat) : AS → Option (List AS) := fun A => some [(t, A.2.1, A.2.2.1, A.2.2.2)]
theorem a_goto_ok (t : Nat) : ai_ok w (s_goto t) (a_goto t) := by
  rintro E ⟨pc, lv, st, iv, ex⟩ ⟨pc', cl, cs, W⟩ As ⟨ρ, g1, g2, g3, g4, g5⟩ h
  cases h
  exact ⟨(t, cl, cs, W), rfl, _, List.mem_singleton_self _, ρ, g1, rfl, g3, g4, g5⟩
noncomputable def a_dup (n : Nat) : AS → Option (List AS) := fun A => match A.2.2.1 with
  | a :: st => bif Nat.beq (av_cat a) 1 then some [(n, A.2.1, a :: a :: st, A.2.2.2)] else none
  | _ => none
theorem a_dup_ok (n : Nat) : ai_ok w (s_dup n) (a_dup n) := by
  rintro E ⟨pc, lv, st, iv, ex⟩ ⟨pc', cl, cs, W⟩ As ⟨ρ, g1, g2, g3, g4, g5⟩ h
  simp only [a_dup] at h
  split at h
  · rename_i a st'
    cases hb : Nat.beq (av_cat a) 1 with
    | false => rw [hb] at h; cases h
    | true =>
      rw [hb] at h
      cases h
      obtain ⟨v, cs, rfl, ha, hr⟩ := f2_cons g4
      ·
        exact ⟨(n, cl, v :: v :: cs, W), by simp only [s_dup]; rw [av_cat_eq ha, hb]; rfl, _, List.mem_singleton_self _, ρ, g1, rfl, g3, ⟨ha, ha, hr⟩, g5⟩
  · cases h
noncomputable def a_pop (n : Nat) : AS → Option (List AS) := fun A => match A.2.2.1 with
  | a :: st => bif Nat.beq (av_cat a) 1 then some [(n, A.2.1, st, A.2.2.2)] else none
  | _ => none
theorem a_pop_ok (n : Nat) : ai_ok w (s_pop n) (a_pop n) := by
  rintro E ⟨pc, lv, st, iv, ex⟩ ⟨pc', cl, cs, W⟩ As ⟨ρ, g1, g2, g3, g4, g5⟩ h
  simp only [a_pop] at h
  split at h
  · rename_i a st'
    cases hb : Nat.beq (av_cat a) 1 with
    | false => rw [hb] at h; cases h
    | true =>
      rw [hb] at h
      cases h
      obtain ⟨v, cs, rfl, ha, hr⟩ := f2_cons g4
      ·
        exact ⟨(n, cl, cs, W), by simp only [s_pop]; rw [av_cat_eq ha, hb]; rfl, _, List.mem_singleton_self _, ρ, g1, rfl, g3, hr, g5⟩
  · cases h
noncomputable def a_dup2 (n : Nat) : AS → Option (List AS) := fun A => match A.2.2.1 with
  | a :: c :: st => bif Nat.beq (av_cat a) 1 && Nat.beq (av_cat c) 1 then some [(n, A.2.1, a :: c :: a :: c :: st, A.2.2.2)] else none
  | _ => none
theorem a_dup2_ok (n : Nat) : ai_ok w (s_dup2 n) (a_dup2 n) := by
  rintro E ⟨pc, lv, st, iv, ex⟩ ⟨pc', cl, cs, W⟩ As ⟨ρ, g1, g2, g3, g4, g5⟩ h
  simp only [a_dup2] at h
  split at h
  · rename_i a c st'
    cases hb : (Nat.beq (av_cat a) 1 && Nat.beq (av_cat c) 1) with
    | false => rw [hb] at h; cases h
    | true =>
      rw [hb] at h
      cases h
      obtain ⟨v, cs, rfl, ha, hr0⟩ := f2_cons g4
      ·
        obtain ⟨u, cs, rfl, hc, hr⟩ := f2_cons hr0
        ·
          exact ⟨(n, cl, v :: u :: v :: u :: cs, W), by simp only [s_dup2]; rw [av_cat_eq ha, av_cat_eq hc, hb]; rfl, _, List.mem_singleton_self _, ρ, g1, rfl, g3, ⟨ha, hc, ha, hc, hr⟩, g5⟩
  · cases h
end AIS
end
section
/-! THE EXECUTOR (second writing), part 3: numbers within bounds -/
theorem ai_bmod {v : Int} (h1 : -2147483648 ≤ v) (h2 : v ≤ 2147483647) : v.bmod (2 ^ 32) = v := by
  unfold Int.bmod
  have e : ((2 ^ 32 : Nat) : Int) = 4294967296 := rfl
  simp only [e]
  split <;> omega
theorem ai_lo (x : Int32) : -2147483648 ≤ x.toInt := by have := Int32.le_toInt x; omega
theorem ai_hi (x : Int32) : x.toInt ≤ 2147483647 := by have := Int32.toInt_lt x; omega
theorem ai_add {x y : Int32} (h1 : -2147483648 ≤ x.toInt + y.toInt) (h2 : x.toInt + y.toInt ≤ 2147483647) : (x + y).toInt = x.toInt + y.toInt := by
  rw [Int32.toInt_add]; exact ai_bmod h1 h2
theorem ai_sub {x y : Int32} (h1 : -2147483648 ≤ x.toInt - y.toInt) (h2 : x.toInt - y.toInt ≤ 2147483647) : (x - y).toInt = x.toInt - y.toInt := by
  rw [Int32.toInt_sub]; exact ai_bmod h1 h2
theorem ai_mul {x y : Int32} (h1 : -2147483648 ≤ x.toInt * y.toInt) (h2 : x.toInt * y.toInt ≤ 2147483647) : (x * y).toInt = x.toInt * y.toInt := by
  rw [Int32.toInt_mul]; exact ai_bmod h1 h2
/-- within the ints -/
noncomputable def ai_in (lo hi : Int) : Bool := decide (-2147483648 ≤ lo) && decide (hi ≤ 2147483647)
theorem ai_in_ok {lo hi : Int} (h : ai_in lo hi = true) : -2147483648 ≤ lo ∧ hi ≤ 2147483647 := by
  simpa [ai_in, Bool.and_eq_true, decide_eq_true_eq] using h
noncomputable def ai_bnd (lo hi : Int) : Int × Int := bif ai_in lo hi then (lo, hi) else (-2147483648, 2147483647)
theorem ai_bnd_ok {z : Int32} {lo hi : Int} (h : ai_in lo hi = true → lo ≤ z.toInt ∧ z.toInt ≤ hi) : (ai_bnd lo hi).1 ≤ z.toInt ∧ z.toInt ≤ (ai_bnd lo hi).2 := by
  unfold ai_bnd
  cases hb : ai_in lo hi with
  | false => exact ⟨ai_lo _, ai_hi _⟩
  | true => exact h hb
/-- the same for longs -/
theorem al_bmod {v : Int} (h1 : -9223372036854775808 ≤ v) (h2 : v ≤ 9223372036854775807) : v.bmod (2 ^ 64) = v := by
  unfold Int.bmod
  have e : ((2 ^ 64 : Nat) : Int) = 18446744073709551616 := rfl
  simp only [e]
  split <;> omega
theorem al_lo (x : Int64) : -9223372036854775808 ≤ x.toInt := by have := Int64.le_toInt x; omega
theorem al_hi (x : Int64) : x.toInt ≤ 9223372036854775807 := by have := Int64.toInt_lt x; omega
theorem al_add {x y : Int64} (h1 : -9223372036854775808 ≤ x.toInt + y.toInt) (h2 : x.toInt + y.toInt ≤ 9223372036854775807) : (x + y).toInt = x.toInt + y.toInt := by
  rw [Int64.toInt_add]; exact al_bmod h1 h2
theorem al_sub {x y : Int64} (h1 : -9223372036854775808 ≤ x.toInt - y.toInt) (h2 : x.toInt - y.toInt ≤ 9223372036854775807) : (x - y).toInt = x.toInt - y.toInt := by
  rw [Int64.toInt_sub]; exact al_bmod h1 h2
theorem al_mul {x y : Int64} (h1 : -9223372036854775808 ≤ x.toInt * y.toInt) (h2 : x.toInt * y.toInt ≤ 9223372036854775807) : (x * y).toInt = x.toInt * y.toInt := by
  rw [Int64.toInt_mul]; exact al_bmod h1 h2
noncomputable def al_in (lo hi : Int) : Bool := decide (-9223372036854775808 ≤ lo) && decide (hi ≤ 9223372036854775807)
theorem al_in_ok {lo hi : Int} (h : al_in lo hi = true) : -9223372036854775808 ≤ lo ∧ hi ≤ 9223372036854775807 := by
  simpa [al_in, Bool.and_eq_true, decide_eq_true_eq] using h
noncomputable def al_bnd (lo hi : Int) : Int × Int := bif al_in lo hi then (lo, hi) else (-9223372036854775808, 9223372036854775807)
theorem al_bnd_ok {z : Int64} {lo hi : Int} (h : al_in lo hi = true → lo ≤ z.toInt ∧ z.toInt ≤ hi) : (al_bnd lo hi).1 ≤ z.toInt ∧ z.toInt ≤ (al_bnd lo hi).2 := by
  unfold al_bnd
  cases hb : al_in lo hi with
  | false => exact ⟨al_lo _, al_hi _⟩
  | true => exact h hb
end
