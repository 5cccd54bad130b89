/-! masks of numbers, chains of two sides, blocks that cross: mathematics (wants t45) -/
noncomputable def ms (p : Nat → Bool) : Nat → Nat
  | 0 => 0
  | n + 1 => ms p n + (bif p (n + 1) then 2 ^ n else 0)
theorem ms_lt (p : Nat → Bool) : ∀ n, ms p n < 2 ^ n
  | 0 => by show 0 < 1; omega
  | n + 1 => by
    have a := ms_lt p n
    have e : 2 ^ (n + 1) = 2 ^ n * 2 := Nat.pow_succ 2 n
    show ms p n + (bif p (n + 1) then 2 ^ n else 0) < _
    cases p (n + 1) with
    | true => show ms p n + 2 ^ n < _; omega
    | false => show ms p n + 0 < _; omega
theorem ms_bit (p : Nat → Bool) : ∀ n i, Nat.testBit (ms p n) i = (decide (i < n) && p (i + 1))
  | 0, i => by
    show Nat.testBit 0 i = _
    rw [Nat.zero_testBit, decide_eq_false (Nat.not_lt_zero i)]
    rfl
  | n + 1, i => by
    have a := ms_lt p n
    have ih := ms_bit p n
    show Nat.testBit (ms p n + (bif p (n + 1) then 2 ^ n else 0)) i = _
    by_cases h1 : i < n
    · rw [decide_eq_true (show i < n + 1 by omega)]
      have e := ih i
      rw [decide_eq_true h1] at e
      cases p (n + 1) with
      | true =>
        show Nat.testBit (ms p n + 2 ^ n) i = _
        rw [Nat.add_comm, Nat.testBit_two_pow_add_gt h1]
        exact e
      | false => exact e
    · by_cases h2 : i = n
      · subst h2
        rw [decide_eq_true (show i < i + 1 by omega)]
        cases hp : p (i + 1) with
        | true =>
          show Nat.testBit (ms p i + 2 ^ i) i = _
          rw [Nat.add_comm, Nat.testBit_two_pow_add_eq, Nat.testBit_lt_two_pow a]
          rfl
        | false =>
          show Nat.testBit (ms p i + 0) i = _
          rw [Nat.add_zero, Nat.testBit_lt_two_pow a]
          rfl
      · rw [decide_eq_false (show ¬ i < n + 1 by omega)]
        have b := ms_lt p (n + 1)
        have c : 2 ^ (n + 1) ≤ 2 ^ i := Nat.pow_le_pow_right (by omega) (by omega)
        exact Nat.testBit_lt_two_pow (Nat.lt_of_lt_of_le b c)
theorem ms_eq {p q : Nat → Bool} {n : Nat} (h : ∀ k, 1 ≤ k → k ≤ n → p k = q k) : ms p n = ms q n := by
  induction n with
  | zero => rfl
  | succ n ih =>
    show ms p n + (bif p (n + 1) then 2 ^ n else 0) = ms q n + (bif q (n + 1) then 2 ^ n else 0)
    rw [ih (fun k a b => h k a (by omega)), h (n + 1) (by omega) (by omega)]
theorem ms_or (p q : Nat → Bool) (n : Nat) : ms p n ||| ms q n = ms (fun k => p k || q k) n := Nat.eq_of_testBit_eq (fun i => by
  rw [Nat.testBit_or, ms_bit, ms_bit, ms_bit]
  cases decide (i < n) <;> rfl)
theorem ms_inj {p q : Nat → Bool} {n k : Nat} (h : ms p n = ms q n) (h1 : 1 ≤ k) (h2 : k ≤ n) : p k = q k := by
  have a := ms_bit p n (k - 1)
  have b := ms_bit q n (k - 1)
  rw [h, b, decide_eq_true (show k - 1 < n by omega), show k - 1 + 1 = k by omega] at a
  exact a.symm
/-! two sides of numbers -/
noncomputable def sd (p q : Nat → Bool) (k : Nat) : Nat := bif p k then 1 else bif q k then 2 else 0
noncomputable def cxs (p q : Nat → Bool) : Nat → Nat × Nat
  | 0 => (0, 0)
  | n + 1 => (bif Nat.beq (sd p q (n + 1)) 0 then (cxs p q n).1 else sd p q (n + 1), bif Nat.beq (cxs p q n).1 0 || (Nat.beq (sd p q (n + 1)) 0 || Nat.beq (sd p q (n + 1)) (cxs p q n).1) then (cxs p q n).2 else (cxs p q n).2 + 1)
noncomputable def Ch (f : Nat → Nat) : Nat → Nat → Nat → Prop
  | 0, _, _ => True
  | m + 1, x, n => ∃ k, 1 ≤ k ∧ k ≤ n ∧ f k = x ∧ Ch f m (3 - x) (k - 1)
theorem Ch_up {f : Nat → Nat} {m x n n' : Nat} (h : n ≤ n') (c : Ch f m x n) : Ch f m x n' := by
  cases m with
  | zero => trivial
  | succ m =>
    obtain ⟨k, h1, h2, h3⟩ := c
    exact ⟨k, h1, by omega, h3⟩
theorem Ch_dn {f : Nat → Nat} : ∀ {m x n : Nat}, Ch f (m + 1) x n → Ch f m x n
  | 0, _, _, _ => trivial
  | m + 1, _, _, ⟨k, h1, h2, h3, h4⟩ => ⟨k, h1, h2, h3, Ch_dn h4⟩
theorem Ch_le {f : Nat → Nat} {m x n : Nat} (j : Nat) (c : Ch f (m + j) x n) : Ch f m x n := by
  induction j with
  | zero => exact c
  | succ j ih => exact ih (Ch_dn c)
theorem Ch_no {f : Nat → Nat} {m x n : Nat} (hx : f (n + 1) ≠ x) (c : Ch f (m + 1) x (n + 1)) : Ch f (m + 1) x n := by
  obtain ⟨k, h1, h2, h3, h4⟩ := c
  by_cases e : k = n + 1
  · rw [e] at h3; exact absurd h3 hx
  · exact ⟨k, h1, by omega, h3, h4⟩
theorem sd_le (p q : Nat → Bool) (k : Nat) : sd p q k ≤ 2 := by
  unfold sd
  cases p k with
  | true => show 1 ≤ 2; omega
  | false => cases q k with
    | true => show 2 ≤ 2; omega
    | false => show 0 ≤ 2; omega
theorem cxs_ok (p q : Nat → Bool) : ∀ n, ((cxs p q n).1 = 0 ∧ (cxs p q n).2 = 0 ∧ ∀ k, 1 ≤ k → k ≤ n → sd p q k = 0) ∨ (((cxs p q n).1 = 1 ∨ (cxs p q n).1 = 2) ∧ Ch (sd p q) ((cxs p q n).2 + 1) (cxs p q n).1 n ∧ ¬ Ch (sd p q) ((cxs p q n).2 + 2) (cxs p q n).1 n ∧ ¬ Ch (sd p q) ((cxs p q n).2 + 1) (3 - (cxs p q n).1) n)
  | 0 => .inl ⟨rfl, rfl, fun k h1 h2 => by omega⟩
  | n + 1 => by
    have ih := cxs_ok p q n
    have ht := sd_le p q (n + 1)
    have e1 : (cxs p q (n + 1)).1 = (bif Nat.beq (sd p q (n + 1)) 0 then (cxs p q n).1 else sd p q (n + 1)) := rfl
    have e2 : (cxs p q (n + 1)).2 = (bif Nat.beq (cxs p q n).1 0 || (Nat.beq (sd p q (n + 1)) 0 || Nat.beq (sd p q (n + 1)) (cxs p q n).1) then (cxs p q n).2 else (cxs p q n).2 + 1) := rfl
    generalize (cxs p q (n + 1)).1 = S' at e1 ⊢
    generalize (cxs p q (n + 1)).2 = C' at e2 ⊢
    generalize (cxs p q n).1 = S at ih e1 e2
    generalize (cxs p q n).2 = C at ih e2
    by_cases t0 : sd p q (n + 1) = 0
    · rw [nbeq.mpr t0] at e1 e2
      have e1 : S' = S := e1
      have e2 : C' = C := by
        rw [e2]
        cases Nat.beq S 0 <;> rfl
      rw [e1, e2]
      rcases ih with ⟨a, b, c⟩ | ⟨a, b, c, d⟩
      · refine .inl ⟨a, b, fun k h1 h2 => ?_⟩
        by_cases e : k = n + 1
        · rw [e]; exact t0
        · exact c k h1 (by omega)
      · exact .inr ⟨a, Ch_up (by omega) b, fun z => c (Ch_no (by omega) z), fun z => d (Ch_no (by omega) z)⟩
    · rw [nbeqF t0] at e1 e2
      have e1 : S' = sd p q (n + 1) := e1
      rcases ih with ⟨a, b, c⟩ | ⟨a, b, c, d⟩
      · rw [nbeq.mpr a] at e2
        have e2 : C' = C := e2
        rw [e1, e2, b]
        have no : ∀ m x, x ≠ 0 → ¬ Ch (sd p q) (m + 1) x n := fun m x hx z => by
          obtain ⟨k, h1, h2, h3, -⟩ := z
          rw [c k h1 h2] at h3
          exact hx h3.symm
        refine .inr ⟨by omega, ⟨n + 1, by omega, Nat.le_refl _, rfl, trivial⟩, fun z => ?_, fun z => no 0 _ (by omega) (Ch_no (by omega) z)⟩
        obtain ⟨k, h1, h2, h3, h4⟩ := z
        exact no 0 (3 - sd p q (n + 1)) (by omega) (Ch_up (by omega) h4)
      · rw [nbeqF (show S ≠ 0 by omega)] at e2
        by_cases ts : sd p q (n + 1) = S
        · rw [nbeq.mpr ts] at e2
          have e2 : C' = C := e2
          rw [e1, e2, ts]
          refine .inr ⟨a, Ch_up (by omega) b, fun z => ?_, fun z => d (Ch_no (by omega) z)⟩
          obtain ⟨k, h1, h2, h3, h4⟩ := z
          by_cases e : k = n + 1
          · subst e
            exact d h4
          · exact c ⟨k, h1, by omega, h3, h4⟩
        · rw [nbeqF ts] at e2
          have e2 : C' = C + 1 := e2
          have e3 : 3 - sd p q (n + 1) = S := by omega
          rw [e1, e2, e3]
          refine .inr ⟨by omega, ⟨n + 1, by omega, Nat.le_refl _, rfl, by rw [e3]; exact b⟩, fun z => ?_, fun z => c (Ch_no (by omega) z)⟩
          obtain ⟨k, h1, h2, h3, h4⟩ := z
          rw [e3] at h4
          exact c (Ch_up (by omega) h4)
theorem cxs_3 (p q : Nat → Bool) (n : Nat) : 3 ≤ (cxs p q n).2 ↔ ∃ x, (x = 1 ∨ x = 2) ∧ Ch (sd p q) 4 x n := by
  have h := cxs_ok p q n
  generalize (cxs p q n).1 = S at h
  generalize (cxs p q n).2 = C at h ⊢
  constructor
  · intro c3
    rcases h with ⟨a, b, c⟩ | ⟨a, b, c, d⟩
    · omega
    · refine ⟨S, a, Ch_le (C - 3) ?_⟩
      rw [show 4 + (C - 3) = C + 1 by omega]
      exact b
  · rintro ⟨x, hx, c4⟩
    refine Classical.byContradiction (fun q3 => ?_)
    rcases h with ⟨a, b, c⟩ | ⟨a, b, c, d⟩
    · obtain ⟨k, h1, h2, h3, -⟩ := c4
      rw [c k h1 h2] at h3
      omega
    · by_cases e : x = S
      · subst e
        refine c (Ch_le (2 - C) ?_)
        rw [show C + 2 + (2 - C) = 4 by omega]
        exact c4
      · refine d (Ch_le (3 - C) ?_)
        rw [show C + 1 + (3 - C) = 4 by omega, show 3 - S = x by omega]
        exact c4
theorem Ch4 {f : Nat → Nat} {x n : Nat} (hx : x = 1 ∨ x = 2) : Ch f 4 x n ↔ ∃ a b c d, 1 ≤ a ∧ a < b ∧ b < c ∧ c < d ∧ d ≤ n ∧ f a = 3 - x ∧ f b = x ∧ f c = 3 - x ∧ f d = x := by
  have e : 3 - (3 - x) = x := by omega
  constructor
  · rintro ⟨d, d1, d2, d3, c, c1, c2, c3, b, b1, b2, b3, a, a1, a2, a3, -⟩
    rw [e] at b3 a3
    exact ⟨a, b, c, d, a1, by omega, by omega, by omega, d2, a3, b3, c3, d3⟩
  · rintro ⟨a, b, c, d, h1, h2, h3, h4, h5, ea, eb, ec, ed⟩
    refine ⟨d, by omega, h5, ed, c, by omega, by omega, ec, b, by omega, by omega, by rw [e]; exact eb, a, h1, by omega, by rw [e]; exact ea, trivial⟩
/-! blocks -/
noncomputable def inW (b : Nat → Nat) (x y : Nat) (k : Nat) : Bool := Nat.beq (b k) (b x) || Nat.beq (b k) (b y)
theorem inW_iff {b : Nat → Nat} {x y k : Nat} : inW b x y k = true ↔ (b k = b x ∨ b k = b y) := by
  unfold inW
  rw [Bool.or_eq_true, nbeq, nbeq]
theorem inW_F {b : Nat → Nat} {x y k : Nat} : inW b x y k = false ↔ ¬ (b k = b x ∨ b k = b y) := by
  rw [← inW_iff]
  cases inW b x y k <;> simp
theorem wj_T {b : Nat → Nat} {x y k : Nat} (h : inW b x y k = true) : wj b x y k = 0 := if_pos (inW_iff.mp h)
theorem wj_F {b : Nat → Nat} {x y k : Nat} (h : inW b x y k = false) : wj b x y k = b k := if_neg (inW_F.mp h)
/-- no two blocks cross -/
noncomputable def NC (b : Nat → Nat) (n : Nat) : Prop := ¬ XC b n
theorem XC_iff {b : Nat → Nat} {x y n : Nat} (hb : ∀ k, 1 ≤ k → k ≤ n → 1 ≤ b k) (N : NC b n) : XC (wj b x y) n ↔ ∃ k, 1 ≤ k ∧ k ≤ n ∧ inW b x y k = false ∧ 3 ≤ (cxs (inW b x y) (fun i => Nat.beq (b i) (b k)) n).2 := by
  constructor
  · rintro ⟨p, q, r, s, h1, h2, h3, h4, h5, e1, e2, e3⟩
    have mk : ∀ k, 1 ≤ k → k ≤ n → inW b x y k = false → ∀ {i : Nat}, inW b x y i = true → sd (inW b x y) (fun i => Nat.beq (b i) (b k)) i = 1 := fun k _ _ _ i hi => by unfold sd; rw [hi]; rfl
    have mk2 : ∀ k, ∀ {i : Nat}, inW b x y i = false → b i = b k → sd (inW b x y) (fun i => Nat.beq (b i) (b k)) i = 2 := fun k i hi e => by
      unfold sd
      rw [hi]
      show (bif Nat.beq (b i) (b k) then 2 else 0) = 2
      rw [nbeq.mpr e]
      rfl
    cases hp : inW b x y p with
    | true =>
      rw [wj_T hp] at e1 e2
      have hr : inW b x y r = true := by
        cases hr : inW b x y r with
        | true => rfl
        | false => rw [wj_F hr] at e2; have := hb r (by omega) (by omega); omega
      have hq : inW b x y q = false := by
        cases hq : inW b x y q with
        | false => rfl
        | true => rw [wj_T hq] at e1; exact absurd rfl e1
      have hs : inW b x y s = false := by
        cases hs : inW b x y s with
        | false => rfl
        | true => rw [wj_T hs, wj_F hq] at e3; have := hb q (by omega) (by omega); omega
      rw [wj_F hq, wj_F hs] at e3
      refine ⟨q, by omega, by omega, hq, (cxs_3 _ _ _).mpr ⟨2, .inr rfl, (Ch4 (.inr rfl)).mpr ⟨p, q, r, s, h1, h2, h3, h4, h5, ?_, ?_, ?_, ?_⟩⟩⟩
      · exact mk q (by omega) (by omega) hq hp
      · exact mk2 q hq rfl
      · exact mk q (by omega) (by omega) hq hr
      · exact mk2 q hs e3.symm
    | false =>
      rw [wj_F hp] at e1 e2
      have hr : inW b x y r = false := by
        cases hr : inW b x y r with
        | false => rfl
        | true => rw [wj_T hr] at e2; have := hb p (by omega) (by omega); omega
      rw [wj_F hr] at e2
      cases hq : inW b x y q with
      | true =>
        have hs : inW b x y s = true := by
          cases hs : inW b x y s with
          | true => rfl
          | false => rw [wj_F hs, wj_T hq] at e3; have := hb s (by omega) (by omega); omega
        refine ⟨p, by omega, by omega, hp, (cxs_3 _ _ _).mpr ⟨1, .inl rfl, (Ch4 (.inl rfl)).mpr ⟨p, q, r, s, h1, h2, h3, h4, h5, ?_, ?_, ?_, ?_⟩⟩⟩
        · exact mk2 p hp rfl
        · exact mk p (by omega) (by omega) hp hq
        · exact mk2 p hr e2.symm
        · exact mk p (by omega) (by omega) hp hs
      | false =>
        have hs : inW b x y s = false := by
          cases hs : inW b x y s with
          | false => rfl
          | true => rw [wj_T hs, wj_F hq] at e3; have := hb q (by omega) (by omega); omega
        rw [wj_F hq] at e1 e3
        rw [wj_F hs] at e3
        exact absurd ⟨p, q, r, s, h1, h2, h3, h4, h5, e1, e2, e3⟩ N
  · rintro ⟨k, k1, k2, k3, k4⟩
    obtain ⟨z, hz, c⟩ := (cxs_3 _ _ _).mp k4
    obtain ⟨p, q, r, s, h1, h2, h3, h4, h5, ea, eb, ec, ed⟩ := (Ch4 hz).mp c
    have s1 : ∀ {i : Nat}, sd (inW b x y) (fun i => Nat.beq (b i) (b k)) i = 1 → wj b x y i = 0 := fun {i} h => by
      cases hi : inW b x y i with
      | true => exact wj_T hi
      | false =>
        unfold sd at h
        rw [hi] at h
        have h : (bif Nat.beq (b i) (b k) then 2 else 0) = 1 := h
        cases hq : Nat.beq (b i) (b k) with
        | true => rw [hq] at h; cases h
        | false => rw [hq] at h; cases h
    have s2 : ∀ {i : Nat}, sd (inW b x y) (fun i => Nat.beq (b i) (b k)) i = 2 → wj b x y i = b k := fun {i} h => by
      cases hi : inW b x y i with
      | true => unfold sd at h; rw [hi] at h; cases h
      | false =>
        unfold sd at h
        rw [hi] at h
        have h : (bif Nat.beq (b i) (b k) then 2 else 0) = 2 := h
        cases hq : Nat.beq (b i) (b k) with
        | true => rw [wj_F hi]; exact nbeq.mp hq
        | false => rw [hq] at h; cases h
    have bk := hb k k1 k2
    rcases hz with rfl | rfl
    · exact ⟨p, q, r, s, h1, h2, h3, h4, h5, by rw [s2 ea, s1 eb]; omega, by rw [s2 ea, s2 ec], by rw [s1 eb, s1 ed]⟩
    · exact ⟨p, q, r, s, h1, h2, h3, h4, h5, by rw [s1 ea, s2 eb]; omega, by rw [s1 ea, s1 ec], by rw [s2 eb, s2 ed]⟩
theorem mg_T {b : Nat → Nat} {x y k : Nat} (hk : 1 ≤ k) (h : inW b x y k = true) : mg b x y k = min (b x) (b y) := by
  have := inW_iff.mp h
  unfold mg
  by_cases q : 1 ≤ k ∧ b k = max (b x) (b y)
  · rw [if_pos q]
  · rw [if_neg q]; omega
theorem mg_F {b : Nat → Nat} {x y k : Nat} (h : inW b x y k = false) : mg b x y k = b k := by
  have := inW_F.mp h
  unfold mg
  rw [if_neg (by omega)]
theorem mg_eq {b : Nat → Nat} {x y i k : Nat} (hi : 1 ≤ i) (hk : 1 ≤ k) : mg b x y i = mg b x y k ↔ ((inW b x y i = true ∧ inW b x y k = true) ∨ (inW b x y i = false ∧ inW b x y k = false ∧ b i = b k)) := by
  cases h1 : inW b x y i with
  | true =>
    rw [mg_T hi h1]
    cases h2 : inW b x y k with
    | true => rw [mg_T hk h2]; simp
    | false =>
      rw [mg_F h2]
      have := inW_F.mp h2
      constructor
      · intro q; omega
      · rintro (⟨_, q⟩ | ⟨q, _⟩) <;> cases q
  | false =>
    rw [mg_F h1]
    have a1 := inW_F.mp h1
    cases h2 : inW b x y k with
    | true =>
      rw [mg_T hk h2]
      constructor
      · intro q; omega
      · rintro (⟨q, _⟩ | ⟨_, q, _⟩) <;> cases q
    | false => rw [mg_F h2]; simp
theorem wj_mg {b : Nat → Nat} {x y n : Nat} (hb : ∀ k, 1 ≤ k → k ≤ n → 1 ≤ b k) {i k : Nat} (hi : 1 ≤ i) (hi2 : i ≤ n) (hk : 1 ≤ k) (hk2 : k ≤ n) : wj b x y i = wj b x y k ↔ mg b x y i = mg b x y k := by
  rw [mg_eq hi hk]
  have b1 := hb i hi hi2
  have b2 := hb k hk hk2
  cases h1 : inW b x y i with
  | true =>
    rw [wj_T h1]
    cases h2 : inW b x y k with
    | true => rw [wj_T h2]; simp
    | false =>
      rw [wj_F h2]
      constructor
      · intro q; omega
      · rintro (⟨_, q⟩ | ⟨q, _⟩) <;> cases q
  | false =>
    rw [wj_F h1]
    cases h2 : inW b x y k with
    | true =>
      rw [wj_T h2]
      constructor
      · intro q; omega
      · rintro (⟨q, _⟩ | ⟨_, q, _⟩) <;> cases q
    | false => rw [wj_F h2]; simp
theorem NC_mg {b : Nat → Nat} {x y n : Nat} (hb : ∀ k, 1 ≤ k → k ≤ n → 1 ≤ b k) (h : ¬ XC (wj b x y) n) : NC (mg b x y) n := by
  rintro ⟨p, q, r, s, h1, h2, h3, h4, h5, e1, e2, e3⟩
  exact h ⟨p, q, r, s, h1, h2, h3, h4, h5, fun z => e1 ((wj_mg hb (by omega) (by omega) (by omega) (by omega)).mp z), (wj_mg hb (by omega) (by omega) (by omega) (by omega)).mpr e2, (wj_mg hb (by omega) (by omega) (by omega) (by omega)).mpr e3⟩
theorem NC_id (n : Nat) : NC (fun k => k) n := by
  rintro ⟨p, q, r, s, h1, h2, h3, h4, h5, e1, e2, e3⟩
  have e2 : p = r := e2
  omega
