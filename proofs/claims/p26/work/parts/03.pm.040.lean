section
section AIO
variable {w : AW}
/-- how many bits -/
noncomputable def fb_k (u1 u2 : Int) : Nat := Nat.log2 (max u1 u2).toNat + 1
theorem fb_k_lt {u1 u2 : Int} : u1 < 2 ^ fb_k u1 u2 ∧ u2 < 2 ^ fb_k u1 u2 := by
  have h : (max u1 u2).toNat < 2 ^ fb_k u1 u2 := Nat.lt_log2_self
  have hp : (2 : Int) ^ fb_k u1 u2 = ((2 ^ fb_k u1 u2 : Nat) : Int) := by norm_cast
  rw [hp]
  omega
noncomputable def fb_or (l1 u1 l2 u2 : Int) : Int × Int := bif (decide (0 ≤ l1) && decide (0 ≤ l2)) && Nat.blt (fb_k u1 u2) 32 then (max l1 l2, 2 ^ fb_k u1 u2 - 1) else (-2147483648, 2147483647)
theorem fb_or_ok : bo_ok (fun x y => x ||| y) fb_or := by
  intro x y l1 u1 l2 u2 h1 h2 h3 h4
  unfold fb_or
  cases hb : ((decide (0 ≤ l1) && decide (0 ≤ l2)) && Nat.blt (fb_k u1 u2) 32) with
  | false => exact ⟨ai_lo _, ai_hi _⟩
  | true =>
    simp only [Bool.and_eq_true, decide_eq_true_eq] at hb
    have hk : fb_k u1 u2 < 32 := Nat.le_of_ble_eq_true hb.2
    have hl := fb_k_lt (u1 := u1) (u2 := u2)
    have q := ai_or (x := x) (y := y) (by omega) (by omega) hk (by omega) (by omega)
    show max l1 l2 ≤ (x ||| y).toInt ∧ (x ||| y).toInt ≤ 2 ^ fb_k u1 u2 - 1
    omega
noncomputable def fb_xor (l1 u1 l2 u2 : Int) : Int × Int := bif (decide (0 ≤ l1) && decide (0 ≤ l2)) && Nat.blt (fb_k u1 u2) 32 then (0, 2 ^ fb_k u1 u2 - 1) else (-2147483648, 2147483647)
theorem fb_xor_ok : bo_ok (fun x y => x ^^^ y) fb_xor := by
  intro x y l1 u1 l2 u2 h1 h2 h3 h4
  unfold fb_xor
  cases hb : ((decide (0 ≤ l1) && decide (0 ≤ l2)) && Nat.blt (fb_k u1 u2) 32) with
  | false => exact ⟨ai_lo _, ai_hi _⟩
  | true =>
    simp only [Bool.and_eq_true, decide_eq_true_eq] at hb
    have hl := fb_k_lt (u1 := u1) (u2 := u2)
    have q := ai_xor (x := x) (y := y) (k := fb_k u1 u2) (by omega) (by omega) (by omega) (by omega)
    show 0 ≤ (x ^^^ y).toInt ∧ (x ^^^ y).toInt ≤ 2 ^ fb_k u1 u2 - 1
    omega
noncomputable def fb_shl (l1 u1 l2 u2 : Int) : Int × Int := bif ((decide (0 ≤ l1) && decide (0 ≤ l2)) && decide (u2 ≤ 31)) && decide (u1 * 2 ^ u2.toNat ≤ 2147483647) then (l1 * 2 ^ l2.toNat, u1 * 2 ^ u2.toNat) else (-2147483648, 2147483647)
theorem pw_mono {a b : Nat} (h : a ≤ b) : (2 : Int) ^ a ≤ 2 ^ b := by
  have h1 : (2 : Nat) ^ a ≤ 2 ^ b := Nat.pow_le_pow_right (by decide) h
  have ha : (2 : Int) ^ a = ((2 ^ a : Nat) : Int) := by norm_cast
  have hb : (2 : Int) ^ b = ((2 ^ b : Nat) : Int) := by norm_cast
  omega
theorem pw_pos (a : Nat) : (0 : Int) < 2 ^ a := by
  have h1 : 0 < (2 : Nat) ^ a := Nat.pow_pos (by decide)
  have ha : (2 : Int) ^ a = ((2 ^ a : Nat) : Int) := by norm_cast
  omega
theorem fb_shl_ok : bo_ok (fun x y => x <<< (y &&& 31)) fb_shl := by
  intro x y l1 u1 l2 u2 h1 h2 h3 h4
  unfold fb_shl
  cases hb : (((decide (0 ≤ l1) && decide (0 ≤ l2)) && decide (u2 ≤ 31)) && decide (u1 * 2 ^ u2.toNat ≤ 2147483647)) with
  | false => exact ⟨ai_lo _, ai_hi _⟩
  | true =>
    simp only [Bool.and_eq_true, decide_eq_true_eq] at hb
    obtain ⟨⟨⟨b1, b2⟩, b3⟩, b4⟩ := hb
    have p1 := pw_mono (a := l2.toNat) (b := y.toInt.toNat) (by omega)
    have p2 := pw_mono (a := y.toInt.toNat) (b := u2.toNat) (by omega)
    have z1 := pw_pos l2.toNat
    have z2 := pw_pos y.toInt.toNat
    have z3 := pw_pos u2.toNat
    have m1 : l1 * 2 ^ l2.toNat ≤ x.toInt * 2 ^ y.toInt.toNat := Int.mul_le_mul h1 p1 (by omega) (by omega)
    have m2 : x.toInt * 2 ^ y.toInt.toNat ≤ u1 * 2 ^ u2.toNat := Int.mul_le_mul h2 p2 (by omega) (by omega)
    have e := ai_shl (x := x) (y := y) (by omega) (by omega) (by omega) (by omega)
    show l1 * 2 ^ l2.toNat ≤ (x <<< (y &&& 31)).toInt ∧ (x <<< (y &&& 31)).toInt ≤ u1 * 2 ^ u2.toNat
    rw [e]
    exact ⟨m1, m2⟩
/-- quotient and rest, the divisor positive -/
theorem ai_div {x y : Int32} (hy : 0 < y.toInt) : (x / y).toInt = x.toInt.tdiv y.toInt ∧ -2147483648 ≤ x.toInt.tdiv y.toInt ∧ x.toInt.tdiv y.toInt ≤ 2147483647 := by
  have l := ai_lo x
  have u := ai_hi x
  have hb : -2147483648 ≤ x.toInt.tdiv y.toInt ∧ x.toInt.tdiv y.toInt ≤ 2147483647 := by
    by_cases hx : 0 ≤ x.toInt
    · have a := Int.tdiv_nonneg hx (Int.le_of_lt hy)
      have b := Int.tdiv_le_self y.toInt hx
      omega
    · have a := Int.tdiv_nonneg (a := -x.toInt) (b := y.toInt) (by omega) (Int.le_of_lt hy)
      have b := Int.tdiv_le_self (a := -x.toInt) y.toInt (by omega)
      rw [Int.neg_tdiv] at a b
      omega
  rw [Int32.toInt_div]
  exact ⟨ai_bmod hb.1 hb.2, hb.1, hb.2⟩
theorem ai_rem {x y : Int32} (hy : 0 < y.toInt) : (x - x / y * y).toInt = x.toInt.tmod y.toInt := by
  obtain ⟨e, -, -⟩ := ai_div (x := x) hy
  have l := ai_lo x
  have u := ai_hi x
  have d := Int.tmod_def x.toInt y.toInt
  have t1 := Int.tmod_lt_of_pos x.toInt hy
  have t2 := Int.lt_tmod_of_pos x.toInt hy
  have hm : x.toInt.tdiv y.toInt * y.toInt = x.toInt - x.toInt.tmod y.toInt := by rw [Int.mul_comm]; omega
  have hs : (0 ≤ x.toInt → 0 ≤ x.toInt.tmod y.toInt ∧ x.toInt.tmod y.toInt ≤ x.toInt) ∧ (x.toInt ≤ 0 → x.toInt.tmod y.toInt ≤ 0 ∧ x.toInt ≤ x.toInt.tmod y.toInt) := by
    constructor
    · intro hx
      refine ⟨Int.tmod_nonneg _ hx, ?_⟩
      have := Int.tdiv_nonneg hx (Int.le_of_lt hy)
      have := Int.mul_nonneg this (Int.le_of_lt hy)
      omega
    · intro hx
      have a := Int.tmod_nonneg (a := -x.toInt) y.toInt (by omega)
      rw [Int.neg_tmod] at a
      have b := Int.tdiv_nonneg (a := -x.toInt) (b := y.toInt) (by omega) (Int.le_of_lt hy)
      have c := Int.mul_nonneg b (Int.le_of_lt hy)
      rw [Int.neg_tdiv, Int.neg_mul] at c
      omega
  have h1 : (x / y * y).toInt = x.toInt.tdiv y.toInt * y.toInt := by
    rw [ai_mul (x := x / y) (y := y)] <;> rw [e]
    · by_cases hx : 0 ≤ x.toInt
      · have := hs.1 hx; omega
      · have := hs.2 (by omega); omega
    · by_cases hx : 0 ≤ x.toInt
      · have := hs.1 hx; omega
      · have := hs.2 (by omega); omega
  rw [ai_sub (x := x) (y := x / y * y)] <;> rw [h1]
  · omega
  · have := ai_lo y; have := ai_hi y; omega
  · have := ai_lo y; have := ai_hi y; omega
noncomputable def fb_div (l1 u1 _ _ : Int) : Int × Int := bif decide (0 ≤ l1) then (0, u1) else (-2147483648, 2147483647)
theorem fb_div_ok : bd_ok (fun x y => x / y) fb_div := by
  intro x y l1 u1 l2 u2 h0 h1 h2 h3 h4
  unfold fb_div
  cases hb : decide (0 ≤ l1) with
  | false => exact ⟨ai_lo _, ai_hi _⟩
  | true =>
    have hb := of_decide_eq_true hb
    have e := (ai_div (x := x) (y := y) (by omega)).1
    have a := Int.tdiv_nonneg (a := x.toInt) (b := y.toInt) (by omega) (by omega)
    have b := Int.tdiv_le_self (a := x.toInt) y.toInt (by omega)
    show 0 ≤ (x / y).toInt ∧ (x / y).toInt ≤ u1
    rw [e]
    omega
end AIO
end
