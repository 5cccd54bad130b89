section
/-- products -/
noncomputable def mn4 (a b c d : Int) : Int := min (min a b) (min c d)
noncomputable def mx4 (a b c d : Int) : Int := max (max a b) (max c d)
theorem mul_btw {l u x y : Int} (h1 : l ≤ x) (h2 : x ≤ u) : min (l * y) (u * y) ≤ x * y ∧ x * y ≤ max (l * y) (u * y) := by
  by_cases hy : 0 ≤ y
  · have a := Int.mul_le_mul_of_nonneg_right h1 hy
    have b := Int.mul_le_mul_of_nonneg_right h2 hy
    omega
  · have hy : y ≤ 0 := by omega
    have a := Int.mul_le_mul_of_nonpos_right h1 hy
    have b := Int.mul_le_mul_of_nonpos_right h2 hy
    omega
theorem mul_rg {l1 u1 l2 u2 x y : Int} (h1 : l1 ≤ x) (h2 : x ≤ u1) (h3 : l2 ≤ y) (h4 : y ≤ u2) : mn4 (l1 * l2) (l1 * u2) (u1 * l2) (u1 * u2) ≤ x * y ∧ x * y ≤ mx4 (l1 * l2) (l1 * u2) (u1 * l2) (u1 * u2) := by
  have a := mul_btw (y := y) h1 h2
  have b := mul_btw (y := l1) h3 h4
  have c := mul_btw (y := u1) h3 h4
  rw [Int.mul_comm l2, Int.mul_comm u2, Int.mul_comm y] at b
  rw [Int.mul_comm l2, Int.mul_comm u2, Int.mul_comm y] at c
  unfold mn4 mx4
  omega
/-- bits -/
theorem ai_nn {x : Int32} (h : 0 ≤ x.toInt) : x.toInt = (x.toBitVec.toNat : Int) ∧ x.toBitVec.toNat < 2147483648 := by
  have h1 : x.toInt = x.toBitVec.toInt := rfl
  rw [h1, BitVec.toInt_eq_toNat_cond] at h ⊢
  have := x.toBitVec.isLt
  split at h <;> split <;> omega
theorem ai_of {x : Int32} (h : x.toBitVec.toNat < 2147483648) : x.toInt = (x.toBitVec.toNat : Int) := by
  have h1 : x.toInt = x.toBitVec.toInt := rfl
  rw [h1, BitVec.toInt_eq_toNat_cond]
  split <;> omega
theorem ai_and1 {x y : Int32} (h : 0 ≤ x.toInt) : 0 ≤ (x &&& y).toInt ∧ (x &&& y).toInt ≤ x.toInt := by
  obtain ⟨e, hl⟩ := ai_nn h
  have hb : (x &&& y).toBitVec.toNat = x.toBitVec.toNat &&& y.toBitVec.toNat := by rw [Int32.toBitVec_and, BitVec.toNat_and]
  have hle : x.toBitVec.toNat &&& y.toBitVec.toNat ≤ x.toBitVec.toNat := Nat.and_le_left
  rw [ai_of (x := x &&& y) (by omega), hb, e]
  omega
theorem ai_and2 {x y : Int32} (h : 0 ≤ y.toInt) : 0 ≤ (x &&& y).toInt ∧ (x &&& y).toInt ≤ y.toInt := by
  rw [Int32.and_comm]; exact ai_and1 h
theorem ai_or {x y : Int32} {k : Nat} (hx : 0 ≤ x.toInt) (hy : 0 ≤ y.toInt) (hk : k < 32) (h1 : x.toInt < 2 ^ k) (h2 : y.toInt < 2 ^ k) : x.toInt ≤ (x ||| y).toInt ∧ y.toInt ≤ (x ||| y).toInt ∧ (x ||| y).toInt < 2 ^ k := by
  obtain ⟨ex, lx⟩ := ai_nn hx
  obtain ⟨ey, ly⟩ := ai_nn hy
  have hp : (2 : Int) ^ k = ((2 ^ k : Nat) : Int) := by norm_cast
  rw [ex, hp] at h1
  rw [ey, hp] at h2
  have hb : (x ||| y).toBitVec.toNat = x.toBitVec.toNat ||| y.toBitVec.toNat := by rw [Int32.toBitVec_or, BitVec.toNat_or]
  have h3 : x.toBitVec.toNat ||| y.toBitVec.toNat < 2 ^ k := Nat.or_lt_two_pow (by omega) (by omega)
  have h4 : x.toBitVec.toNat ||| y.toBitVec.toNat < 2 ^ 31 := Nat.or_lt_two_pow (by omega) (by omega)
  have h5 : x.toBitVec.toNat ≤ x.toBitVec.toNat ||| y.toBitVec.toNat := Nat.left_le_or
  have h6 : y.toBitVec.toNat ≤ x.toBitVec.toNat ||| y.toBitVec.toNat := Nat.right_le_or
  rw [ai_of (x := x ||| y) (by omega), hb, ex, ey, hp]
  omega
theorem ai_xor {x y : Int32} {k : Nat} (hx : 0 ≤ x.toInt) (hy : 0 ≤ y.toInt) (h1 : x.toInt < 2 ^ k) (h2 : y.toInt < 2 ^ k) : 0 ≤ (x ^^^ y).toInt ∧ (x ^^^ y).toInt < 2 ^ k := by
  obtain ⟨ex, lx⟩ := ai_nn hx
  obtain ⟨ey, ly⟩ := ai_nn hy
  have hp : (2 : Int) ^ k = ((2 ^ k : Nat) : Int) := by norm_cast
  rw [ex, hp] at h1
  rw [ey, hp] at h2
  have hb : (x ^^^ y).toBitVec.toNat = x.toBitVec.toNat ^^^ y.toBitVec.toNat := by rw [Int32.toBitVec_xor, BitVec.toNat_xor]
  have h3 : x.toBitVec.toNat ^^^ y.toBitVec.toNat < 2 ^ k := Nat.xor_lt_two_pow (by omega) (by omega)
  have h4 : x.toBitVec.toNat ^^^ y.toBitVec.toNat < 2 ^ 31 := Nat.xor_lt_two_pow (by omega) (by omega)
  rw [ai_of (x := x ^^^ y) (by omega), hb, hp]
  omega
theorem ai_shn : ∀ n : Fin 32, ((Int32.ofNat n.1 &&& 31).toBitVec.smod 32).toNat = n.1 := by decide +kernel
theorem ai_ofn {y : Int32} (h1 : 0 ≤ y.toInt) : y = Int32.ofNat y.toInt.toNat := by
  apply Int32.toInt_inj.mp
  have := ai_hi y
  rw [Int32.toInt_ofNat_of_lt (by omega)]
  omega
theorem ai_shl {x y : Int32} (hx : 0 ≤ x.toInt) (hy : 0 ≤ y.toInt) (hy2 : y.toInt ≤ 31) (hm : x.toInt * 2 ^ y.toInt.toNat ≤ 2147483647) : (x <<< (y &&& 31)).toInt = x.toInt * 2 ^ y.toInt.toNat := by
  have hs := ai_shn ⟨y.toInt.toNat, by omega⟩
  simp only at hs
  rw [← ai_ofn hy] at hs
  obtain ⟨ex, lx⟩ := ai_nn hx
  have hp : (2 : Int) ^ y.toInt.toNat = ((2 ^ y.toInt.toNat : Nat) : Int) := by norm_cast
  have hb : (x <<< (y &&& 31)).toBitVec.toNat = x.toBitVec.toNat * 2 ^ y.toInt.toNat % 2 ^ 32 := by
    rw [Int32.toBitVec_shiftLeft, BitVec.shiftLeft_eq', BitVec.toNat_shiftLeft, hs, Nat.shiftLeft_eq]
  rw [ex, hp] at hm
  have hm' : x.toBitVec.toNat * 2 ^ y.toInt.toNat ≤ 2147483647 := Int.ofNat_le.mp (by rw [Int.natCast_mul]; exact hm)
  rw [Nat.mod_eq_of_lt (by omega)] at hb
  rw [ai_of (by omega), hb, ex, hp]
  exact Int.natCast_mul _ _
end
section
/-! THE EXECUTOR (second writing), part 4: fresh symbols, narrower intervals, relations -/
section AIP
variable {w : AW} {E : AEnv} {ρ : Nat → Int}
theorem as_grow {pc : Nat} {lv : List (Nat × AV)} {st : List AV} {iv : IV} {ex : AX} {σ : pm_S} {v lo hi : Int} (g : as_r w E ρ (pc, lv, st, iv, ex) σ) (h1 : lo ≤ v) (h2 : v ≤ hi) :
    as_r w E (iv_ext ρ iv.length v) (pc, lv, st, iv ++ [(lo, hi)], ex) σ ∧ av_ev (iv ++ [(lo, hi)]).length (iv_ext ρ iv.length v) (some iv.length) 0 v := by
  obtain ⟨g1, g2, g3, g4, g5⟩ := g
  dsimp only at g1 g2 g3 g4 g5
  have hle : iv.length ≤ (iv ++ [(lo, hi)]).length := by rw [List.length_append]; exact Nat.le_add_right _ _
  refine ⟨⟨ia_push g1 h1 h2, g2, fun i a hm => ?_, f2_mono (fun a b hab => av_g_mono hle iv_ext_old hab) g4, ex_g_mono hle iv_ext_old g5⟩, ?_, ?_⟩
  · obtain ⟨x, e1, e2⟩ := g3 i a hm
    exact ⟨x, e1, av_g_mono hle iv_ext_old e2⟩
  · rw [List.length_append]; exact Nat.lt_succ_self _
  · rw [iv_ext_new, Int.add_zero]
/-- an int, a long within bounds is pushed -/
noncomputable def a_pi (n : Nat) (lv : List (Nat × AV)) (st : List AV) (iv : IV) (ex : AX) (lo hi : Int) : AS := bif decide (lo = hi) then (n, lv, .inl (none, lo) :: st, iv, ex) else (n, lv, .inl (some iv.length, 0) :: st, iv ++ [(lo, hi)], ex)
noncomputable def a_pl (n : Nat) (lv : List (Nat × AV)) (st : List AV) (iv : IV) (ex : AX) (lo hi : Int) : AS := bif decide (lo = hi) then (n, lv, .inr (.inl (none, lo)) :: st, iv, ex) else (n, lv, .inr (.inl (some iv.length, 0)) :: st, iv ++ [(lo, hi)], ex)
end AIP
end
