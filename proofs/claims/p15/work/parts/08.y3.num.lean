/-! THE EXECUTOR (second writing), part 3: numbers within bounds -/
theorem ai_bmod {v : Int} (h1 : -2147483648 ≤ v) (h2 : v ≤ 2147483647) : v.bmod (2 ^ 32) = v := by
  unfold Int.bmod
  have e : ((2 ^ 32 : Nat) : Int) = 4294967296 := rfl
  simp only [e]
  split <;> omega
theorem ai_lo (x : Int32) : -2147483648 ≤ x.toInt := by have := Int32.le_toInt x; omega
theorem ai_hi (x : Int32) : x.toInt ≤ 2147483647 := by have := Int32.toInt_lt x; omega
theorem ai_add {x y : Int32} (h1 : -2147483648 ≤ x.toInt + y.toInt) (h2 : x.toInt + y.toInt ≤ 2147483647) : (x + y).toInt = x.toInt + y.toInt := by
  rw [Int32.toInt_add]; exact ai_bmod h1 h2
theorem ai_sub {x y : Int32} (h1 : -2147483648 ≤ x.toInt - y.toInt) (h2 : x.toInt - y.toInt ≤ 2147483647) : (x - y).toInt = x.toInt - y.toInt := by
  rw [Int32.toInt_sub]; exact ai_bmod h1 h2
theorem ai_mul {x y : Int32} (h1 : -2147483648 ≤ x.toInt * y.toInt) (h2 : x.toInt * y.toInt ≤ 2147483647) : (x * y).toInt = x.toInt * y.toInt := by
  rw [Int32.toInt_mul]; exact ai_bmod h1 h2
/-- within the ints -/
noncomputable def ai_in (lo hi : Int) : Bool := decide (-2147483648 ≤ lo) && decide (hi ≤ 2147483647)
theorem ai_in_ok {lo hi : Int} (h : ai_in lo hi = true) : -2147483648 ≤ lo ∧ hi ≤ 2147483647 := by
  simpa [ai_in, Bool.and_eq_true, decide_eq_true_eq] using h
noncomputable def ai_bnd (lo hi : Int) : Int × Int := bif ai_in lo hi then (lo, hi) else (-2147483648, 2147483647)
theorem ai_bnd_ok {z : Int32} {lo hi : Int} (h : ai_in lo hi = true → lo ≤ z.toInt ∧ z.toInt ≤ hi) : (ai_bnd lo hi).1 ≤ z.toInt ∧ z.toInt ≤ (ai_bnd lo hi).2 := by
  unfold ai_bnd
  cases hb : ai_in lo hi with
  | false => exact ⟨ai_lo _, ai_hi _⟩
  | true => exact h hb
/-- the same for longs -/
theorem al_bmod {v : Int} (h1 : -9223372036854775808 ≤ v) (h2 : v ≤ 9223372036854775807) : v.bmod (2 ^ 64) = v := by
  unfold Int.bmod
  have e : ((2 ^ 64 : Nat) : Int) = 18446744073709551616 := rfl
  simp only [e]
  split <;> omega
theorem al_lo (x : Int64) : -9223372036854775808 ≤ x.toInt := by have := Int64.le_toInt x; omega
theorem al_hi (x : Int64) : x.toInt ≤ 9223372036854775807 := by have := Int64.toInt_lt x; omega
theorem al_add {x y : Int64} (h1 : -9223372036854775808 ≤ x.toInt + y.toInt) (h2 : x.toInt + y.toInt ≤ 9223372036854775807) : (x + y).toInt = x.toInt + y.toInt := by
  rw [Int64.toInt_add]; exact al_bmod h1 h2
theorem al_sub {x y : Int64} (h1 : -9223372036854775808 ≤ x.toInt - y.toInt) (h2 : x.toInt - y.toInt ≤ 9223372036854775807) : (x - y).toInt = x.toInt - y.toInt := by
  rw [Int64.toInt_sub]; exact al_bmod h1 h2
theorem al_mul {x y : Int64} (h1 : -9223372036854775808 ≤ x.toInt * y.toInt) (h2 : x.toInt * y.toInt ≤ 9223372036854775807) : (x * y).toInt = x.toInt * y.toInt := by
  rw [Int64.toInt_mul]; exact al_bmod h1 h2
noncomputable def al_in (lo hi : Int) : Bool := decide (-9223372036854775808 ≤ lo) && decide (hi ≤ 9223372036854775807)
theorem al_in_ok {lo hi : Int} (h : al_in lo hi = true) : -9223372036854775808 ≤ lo ∧ hi ≤ 9223372036854775807 := by
  simpa [al_in, Bool.and_eq_true, decide_eq_true_eq] using h
noncomputable def al_bnd (lo hi : Int) : Int × Int := bif al_in lo hi then (lo, hi) else (-9223372036854775808, 9223372036854775807)
theorem al_bnd_ok {z : Int64} {lo hi : Int} (h : al_in lo hi = true → lo ≤ z.toInt ∧ z.toInt ≤ hi) : (al_bnd lo hi).1 ≤ z.toInt ∧ z.toInt ≤ (al_bnd lo hi).2 := by
  unfold al_bnd
  cases hb : al_in lo hi with
  | false => exact ⟨al_lo _, al_hi _⟩
  | true => exact h hb
/-- products -/
noncomputable def mn4 (a b c d : Int) : Int := min (min a b) (min c d)
noncomputable def mx4 (a b c d : Int) : Int := max (max a b) (max c d)
theorem mul_btw {l u x y : Int} (h1 : l ≤ x) (h2 : x ≤ u) : min (l * y) (u * y) ≤ x * y ∧ x * y ≤ max (l * y) (u * y) := by
  by_cases hy : 0 ≤ y
  · have a := Int.mul_le_mul_of_nonneg_right h1 hy
    have b := Int.mul_le_mul_of_nonneg_right h2 hy
    omega
  · have hy : y ≤ 0 := by omega
    have a := Int.mul_le_mul_of_nonpos_right h1 hy
    have b := Int.mul_le_mul_of_nonpos_right h2 hy
    omega
theorem mul_rg {l1 u1 l2 u2 x y : Int} (h1 : l1 ≤ x) (h2 : x ≤ u1) (h3 : l2 ≤ y) (h4 : y ≤ u2) : mn4 (l1 * l2) (l1 * u2) (u1 * l2) (u1 * u2) ≤ x * y ∧ x * y ≤ mx4 (l1 * l2) (l1 * u2) (u1 * l2) (u1 * u2) := by
  have a := mul_btw (y := y) h1 h2
  have b := mul_btw (y := l1) h3 h4
  have c := mul_btw (y := u1) h3 h4
  rw [Int.mul_comm l2, Int.mul_comm u2, Int.mul_comm y] at b
  rw [Int.mul_comm l2, Int.mul_comm u2, Int.mul_comm y] at c
  unfold mn4 mx4
  omega
/-- bits -/
theorem ai_nn {x : Int32} (h : 0 ≤ x.toInt) : x.toInt = (x.toBitVec.toNat : Int) ∧ x.toBitVec.toNat < 2147483648 := by
  have h1 : x.toInt = x.toBitVec.toInt := rfl
  rw [h1, BitVec.toInt_eq_toNat_cond] at h ⊢
  have := x.toBitVec.isLt
  split at h <;> split <;> omega
theorem ai_of {x : Int32} (h : x.toBitVec.toNat < 2147483648) : x.toInt = (x.toBitVec.toNat : Int) := by
  have h1 : x.toInt = x.toBitVec.toInt := rfl
  rw [h1, BitVec.toInt_eq_toNat_cond]
  split <;> omega
theorem ai_and1 {x y : Int32} (h : 0 ≤ x.toInt) : 0 ≤ (x &&& y).toInt ∧ (x &&& y).toInt ≤ x.toInt := by
  obtain ⟨e, hl⟩ := ai_nn h
  have hb : (x &&& y).toBitVec.toNat = x.toBitVec.toNat &&& y.toBitVec.toNat := by rw [Int32.toBitVec_and, BitVec.toNat_and]
  have hle : x.toBitVec.toNat &&& y.toBitVec.toNat ≤ x.toBitVec.toNat := Nat.and_le_left
  rw [ai_of (x := x &&& y) (by omega), hb, e]
  omega
theorem ai_and2 {x y : Int32} (h : 0 ≤ y.toInt) : 0 ≤ (x &&& y).toInt ∧ (x &&& y).toInt ≤ y.toInt := by
  rw [Int32.and_comm]; exact ai_and1 h
theorem ai_or {x y : Int32} {k : Nat} (hx : 0 ≤ x.toInt) (hy : 0 ≤ y.toInt) (hk : k < 32) (h1 : x.toInt < 2 ^ k) (h2 : y.toInt < 2 ^ k) : x.toInt ≤ (x ||| y).toInt ∧ y.toInt ≤ (x ||| y).toInt ∧ (x ||| y).toInt < 2 ^ k := by
  obtain ⟨ex, lx⟩ := ai_nn hx
  obtain ⟨ey, ly⟩ := ai_nn hy
  have hp : (2 : Int) ^ k = ((2 ^ k : Nat) : Int) := by norm_cast
  rw [ex, hp] at h1
  rw [ey, hp] at h2
  have hb : (x ||| y).toBitVec.toNat = x.toBitVec.toNat ||| y.toBitVec.toNat := by rw [Int32.toBitVec_or, BitVec.toNat_or]
  have h3 : x.toBitVec.toNat ||| y.toBitVec.toNat < 2 ^ k := Nat.or_lt_two_pow (by omega) (by omega)
  have h4 : x.toBitVec.toNat ||| y.toBitVec.toNat < 2 ^ 31 := Nat.or_lt_two_pow (by omega) (by omega)
  have h5 : x.toBitVec.toNat ≤ x.toBitVec.toNat ||| y.toBitVec.toNat := Nat.left_le_or
  have h6 : y.toBitVec.toNat ≤ x.toBitVec.toNat ||| y.toBitVec.toNat := Nat.right_le_or
  rw [ai_of (x := x ||| y) (by omega), hb, ex, ey, hp]
  omega
theorem ai_xor {x y : Int32} {k : Nat} (hx : 0 ≤ x.toInt) (hy : 0 ≤ y.toInt) (h1 : x.toInt < 2 ^ k) (h2 : y.toInt < 2 ^ k) : 0 ≤ (x ^^^ y).toInt ∧ (x ^^^ y).toInt < 2 ^ k := by
  obtain ⟨ex, lx⟩ := ai_nn hx
  obtain ⟨ey, ly⟩ := ai_nn hy
  have hp : (2 : Int) ^ k = ((2 ^ k : Nat) : Int) := by norm_cast
  rw [ex, hp] at h1
  rw [ey, hp] at h2
  have hb : (x ^^^ y).toBitVec.toNat = x.toBitVec.toNat ^^^ y.toBitVec.toNat := by rw [Int32.toBitVec_xor, BitVec.toNat_xor]
  have h3 : x.toBitVec.toNat ^^^ y.toBitVec.toNat < 2 ^ k := Nat.xor_lt_two_pow (by omega) (by omega)
  have h4 : x.toBitVec.toNat ^^^ y.toBitVec.toNat < 2 ^ 31 := Nat.xor_lt_two_pow (by omega) (by omega)
  rw [ai_of (x := x ^^^ y) (by omega), hb, hp]
  omega
theorem ai_shn : ∀ n : Fin 32, ((Int32.ofNat n.1 &&& 31).toBitVec.smod 32).toNat = n.1 := by decide +kernel
theorem ai_ofn {y : Int32} (h1 : 0 ≤ y.toInt) : y = Int32.ofNat y.toInt.toNat := by
  apply Int32.toInt_inj.mp
  have := ai_hi y
  rw [Int32.toInt_ofNat_of_lt (by omega)]
  omega
theorem ai_shl {x y : Int32} (hx : 0 ≤ x.toInt) (hy : 0 ≤ y.toInt) (hy2 : y.toInt ≤ 31) (hm : x.toInt * 2 ^ y.toInt.toNat ≤ 2147483647) : (x <<< (y &&& 31)).toInt = x.toInt * 2 ^ y.toInt.toNat := by
  have hs := ai_shn ⟨y.toInt.toNat, by omega⟩
  simp only at hs
  rw [← ai_ofn hy] at hs
  obtain ⟨ex, lx⟩ := ai_nn hx
  have hp : (2 : Int) ^ y.toInt.toNat = ((2 ^ y.toInt.toNat : Nat) : Int) := by norm_cast
  have hb : (x <<< (y &&& 31)).toBitVec.toNat = x.toBitVec.toNat * 2 ^ y.toInt.toNat % 2 ^ 32 := by
    rw [Int32.toBitVec_shiftLeft, BitVec.shiftLeft_eq', BitVec.toNat_shiftLeft, hs, Nat.shiftLeft_eq]
  rw [ex, hp] at hm
  have hm' : x.toBitVec.toNat * 2 ^ y.toInt.toNat ≤ 2147483647 := Int.ofNat_le.mp (by rw [Int.natCast_mul]; exact hm)
  rw [Nat.mod_eq_of_lt (by omega)] at hb
  rw [ai_of (by omega), hb, ex, hp]
  exact Int.natCast_mul _ _
