/-! THE EXECUTOR, part 5: ranks -/
def rk_e (K : Nat) : Nat → List Nat → Nat
  | 0, _ => 0
  | _ + 1, [] => 0
  | d + 1, a :: l => a * K ^ d + rk_e K d l
theorem rk_e_lt {K : Nat} (hK : 0 < K) : ∀ (d : Nat) (l : List Nat), (∀ a ∈ l, a < K) → rk_e K d l < K ^ d
  | 0, _, _ => Nat.one_pos
  | d + 1, [], _ => Nat.pow_pos hK
  | d + 1, a :: l, h => by
    have h1 := rk_e_lt hK d l (fun b hb => h b (List.mem_cons_of_mem _ hb))
    have h2 : a + 1 ≤ K := h a List.mem_cons_self
    have h3 : (a + 1) * K ^ d ≤ K * K ^ d := Nat.mul_le_mul_right _ h2
    have h4 : (a + 1) * K ^ d = a * K ^ d + K ^ d := Nat.succ_mul a (K ^ d)
    have h5 : K ^ (d + 1) = K * K ^ d := by rw [Nat.pow_succ, Nat.mul_comm]
    show a * K ^ d + rk_e K d l < K ^ (d + 1)
    omega
def rk_lt : Nat → List Nat → List Nat → Prop
  | d + 1, a :: l, b :: m => a < b ∨ (a = b ∧ rk_lt d l m)
  | _, _, _ => False
theorem rk_e_mono {K : Nat} (hK : 0 < K) : ∀ (d : Nat) (l m : List Nat), (∀ a ∈ l, a < K) → rk_lt d l m → rk_e K d l < rk_e K d m
  | 0, _, _, _, h => h.elim
  | _ + 1, [], _, _, h => h.elim
  | _ + 1, _ :: _, [], _, h => h.elim
  | d + 1, a :: l, b :: m, hl, h => by
    have hl' : ∀ c ∈ l, c < K := fun c hc => hl c (List.mem_cons_of_mem _ hc)
    show a * K ^ d + rk_e K d l < b * K ^ d + rk_e K d m
    cases h with
    | inl h =>
      have h1 := rk_e_lt hK d l hl'
      have h3 : (a + 1) * K ^ d ≤ b * K ^ d := Nat.mul_le_mul_right _ h
      have h4 : (a + 1) * K ^ d = a * K ^ d + K ^ d := Nat.succ_mul a (K ^ d)
      omega
    | inr h =>
      obtain ⟨rfl, h⟩ := h
      have := rk_e_mono hK d l m hl' h
      omega
/-- a rank: fixed numbers, and locals that count up (true) or down -/
abbrev RK : Type := List (Nat ⊕ (Nat × Bool))
def rk_one (lv : List (Nat × Value)) (q : Nat ⊕ (Nat × Bool)) : Nat := match q with
  | .inl n => n
  | .inr (i, up) => match pm_get lv i with
    | some (.int x) => bif up then (2147483648 - x.toInt).toNat else (x.toInt + 2147483648).toNat
    | _ => 0
def rk_v (lv : List (Nat × Value)) (r : RK) : List Nat := r.map (rk_one lv)
def rk_small (r : RK) : Bool := r.all (fun q => match q with | .inl n => Nat.blt n 8589934592 | .inr _ => true)
theorem rk_v_lt {lv : List (Nat × Value)} {r : RK} (h : rk_small r = true) : ∀ a ∈ rk_v lv r, a < 8589934592 := by
  intro a ha
  obtain ⟨q, hq, rfl⟩ := List.mem_map.mp ha
  have h1 := List.all_eq_true.mp h q hq
  cases q with
  | inl n => exact Nat.le_of_ble_eq_true h1
  | inr p =>
    obtain ⟨i, up⟩ := p
    unfold rk_one
    dsimp only
    split
    · rename_i x e
      have h2 := ai_lo x
      have h3 := ai_hi x
      cases up with
      | true => show (2147483648 - x.toInt).toNat < _; omega
      | false => show (x.toInt + 2147483648).toNat < _; omega
    · omega
/-- the rank of the target is smaller: by fixed numbers, or by a local that is its own symbol and an offset -/
def rk_chk (l0 l1 : List (Nat × AV)) : Nat → RK → RK → Bool
  | d + 1, .inl a :: r, .inl b :: q => Nat.blt a b || (Nat.beq a b && rk_chk l0 l1 d r q)
  | d + 1, .inr (i, u) :: r, .inr (i', u') :: q => Nat.beq i i' && (u == u') && (match as_get l0 i, as_get l1 i with
      | some (.inl ((some k), 0)), some (.inl ((some k'), o)) => Nat.beq k k' && ((bif u then decide (0 < o) else decide (o < 0)) || (decide (o = 0) && rk_chk l0 l1 d r q))
      | _, _ => false)
  | _, _, _ => false
theorem rk_chk_ok {n0 n : Nat} {ρ0 ρ : Nat → Int} {l0 l1 : List (Nat × AV)} {c0 c1 : List (Nat × Value)} (hρ : ∀ k, k < n0 → ρ k = ρ0 k) (h0 : ∀ i a, (i, a) ∈ l0 → ∃ v, pm_get c0 i = some v ∧ av_g n0 ρ0 a v) (h1 : ∀ i a, (i, a) ∈ l1 → ∃ v, pm_get c1 i = some v ∧ av_g n ρ a v) :
    ∀ (d : Nat) (r q : RK), rk_chk l0 l1 d r q = true → rk_lt d (rk_v c1 r) (rk_v c0 q)
  | 0, _, _, h => by unfold rk_chk at h; cases h
  | d + 1, [], _, h => by unfold rk_chk at h; cases h
  | d + 1, _ :: _, [], h => by unfold rk_chk at h; split at h <;> first | cases h | contradiction
  | d + 1, .inl a :: r, .inl b :: q, h => by
    unfold rk_chk at h
    rw [Bool.or_eq_true] at h
    cases h with
    | inl h => exact .inl (Nat.le_of_ble_eq_true h)
    | inr h =>
      rw [Bool.and_eq_true] at h
      exact .inr ⟨Nat.eq_of_beq_eq_true h.1, rk_chk_ok hρ h0 h1 d r q h.2⟩
  | d + 1, .inl _ :: _, .inr _ :: _, h => by unfold rk_chk at h; cases h
  | d + 1, .inr _ :: _, .inl _ :: _, h => by unfold rk_chk at h; cases h
  | d + 1, .inr (i, u) :: r, .inr (i', u') :: q, h => by
    unfold rk_chk at h
    rw [Bool.and_eq_true, Bool.and_eq_true] at h
    obtain ⟨⟨hi, hu⟩, h⟩ := h
    have hi := Nat.eq_of_beq_eq_true hi
    have hu : u = u' := by simpa using hu
    subst hi; subst hu
    split at h
    · rename_i k k' o e0 e1
      rw [Bool.and_eq_true] at h
      obtain ⟨hk, h⟩ := h
      have hk := Nat.eq_of_beq_eq_true hk
      subst hk
      obtain ⟨v0, a0, b0⟩ := h0 i _ (as_get_in e0)
      obtain ⟨v1, a1, b1⟩ := h1 i _ (as_get_in e1)
      cases v0 with
      | int x =>
        cases v1 with
        | int y =>
          have hx : x.toInt = ρ0 k + 0 := b0.2
          have hy : y.toInt = ρ k + o := b1.2
          rw [hρ k b0.1] at hy
          have x1 := ai_lo x
          have x2 := ai_hi x
          have y1 := ai_lo y
          have y2 := ai_hi y
          show rk_lt (d + 1) (rk_one c1 (.inr (i, u)) :: rk_v c1 r) (rk_one c0 (.inr (i, u)) :: rk_v c0 q)
          have z1 : rk_one c1 (.inr (i, u)) = bif u then (2147483648 - y.toInt).toNat else (y.toInt + 2147483648).toNat := by unfold rk_one; simp only [a1]
          have z0 : rk_one c0 (.inr (i, u)) = bif u then (2147483648 - x.toInt).toNat else (x.toInt + 2147483648).toNat := by unfold rk_one; simp only [a0]
          rw [z0, z1]
          rw [Bool.or_eq_true] at h
          cases h with
          | inl h =>
            left
            cases u with
            | true =>
              have h : 0 < o := of_decide_eq_true h
              show (2147483648 - y.toInt).toNat < (2147483648 - x.toInt).toNat
              omega
            | false =>
              have h : o < 0 := of_decide_eq_true h
              show (y.toInt + 2147483648).toNat < (x.toInt + 2147483648).toNat
              omega
          | inr h =>
            rw [Bool.and_eq_true] at h
            right
            have ho : o = 0 := of_decide_eq_true h.1
            have hxy : y.toInt = x.toInt := by omega
            rw [hxy]
            exact ⟨rfl, rk_chk_ok hρ h0 h1 d r q h.2⟩
        | _ => exact b1.elim
      | _ => exact b0.elim
    · cases h
