section
section PRL
variable {T : Nat → Int32} {L : Nat}
theorem prs_end {f n s : Nat} {σ : Sg} (h : tkk T L s = 0) : prs T L (f + 1) n σ s = (.inr s, n, σ) := by
  show (bif Nat.beq (tkk T L s) 0 then _ else _) = _
  rw [nbeq.mpr h]
  rfl
theorem prs_bad {f n s : Nat} {σ : Sg} {e : Nat × Nat} (h : ¬ tkk T L s = 0) (hb : bS T L (ln T L n σ s).1 = .inl e) : prs T L (f + 1) n σ s = (.inl e, n, σ) := by
  show (bif Nat.beq (tkk T L s) 0 then _ else (match bS T L (ln T L n σ s).1 with | .inl e => _ | .inr s' => _)) = _
  rw [nbeqF h, hb]
  rfl
theorem prs_go {f n s s' : Nat} {σ : Sg} (h : ¬ tkk T L s = 0) (hb : bS T L (ln T L n σ s).1 = .inr s') : prs T L (f + 1) n σ s = prs T L f (n + 1) (ln T L n σ s).2 s' := by
  show (bif Nat.beq (tkk T L s) 0 then _ else (match bS T L (ln T L n σ s).1 with | .inl e => _ | .inr s' => _)) = _
  rw [nbeqF h, hb]
  rfl
theorem bW_in {W : List Int32} {x : Px} {s : Nat} (h : bW T L W x = .inr s) : ∃ t, x = .inr t ∧ wIs T L t W = true ∧ s = nxt T L t := by
  match x, h with
  | .inl e, h => cases h
  | .inr t, h =>
    cases hw : wIs T L t W with
    | true => rw [bW_T hw] at h; cases h; exact ⟨t, rfl, hw, rfl⟩
    | false => rw [bW_F hw] at h; cases h
theorem bN_in {lo hi : Nat} {x : Px} {s : Nat} (h : bN T L lo hi x = .inr s) : ∃ t, x = .inr t ∧ okN T L lo hi t = true ∧ s = nxt T L t := by
  match x, h with
  | .inl e, h => cases h
  | .inr t, h =>
    cases hw : okN T L lo hi t with
    | true => rw [(bN_T hw).1] at h; cases h; exact ⟨t, rfl, hw, rfl⟩
    | false => unfold bN at h; dsimp only at h; rw [hw] at h; cases h
theorem bS_in {x : Px} {s : Nat} (h : bS T L x = .inr s) : ∃ t, x = .inr t ∧ tkk T L t = 3 ∧ s = nxt T L t := by
  match x, h with
  | .inl e, h => cases h
  | .inr t, h =>
    by_cases hw : tkk T L t = 3
    · rw [bS_T hw] at h; cases h; exact ⟨t, rfl, hw, rfl⟩
    · rw [bS_F hw] at h; cases h
theorem bJ_in {n a : Nat} {b : Nat → Nat} {x : Px} {s : Nat} (h : bJ T L n b a x = .inr s) : x = .inr s := by
  match x, h with
  | .inl e, h => cases h
  | .inr t, h =>
    unfold bJ at h
    dsimp only at h
    cases hq : (okN T L 1 n t && !(mayb n b a (tkv T L t))) with
    | true => rw [hq] at h; cases h
    | false => rw [hq] at h; cases h; rfl
end PRL
end
section
/-! masks of numbers, chains of two sides, blocks that cross: mathematics (wants t45) -/
noncomputable def ms (p : Nat → Bool) : Nat → Nat
  | 0 => 0
  | n + 1 => ms p n + (bif p (n + 1) then 2 ^ n else 0)
theorem ms_lt (p : Nat → Bool) : ∀ n, ms p n < 2 ^ n
  | 0 => by show 0 < 1; omega
  | n + 1 => by
    have a := ms_lt p n
    have e : 2 ^ (n + 1) = 2 ^ n * 2 := Nat.pow_succ 2 n
    show ms p n + (bif p (n + 1) then 2 ^ n else 0) < _
    cases p (n + 1) with
    | true => show ms p n + 2 ^ n < _; omega
    | false => show ms p n + 0 < _; omega
theorem ms_bit (p : Nat → Bool) : ∀ n i, Nat.testBit (ms p n) i = (decide (i < n) && p (i + 1))
  | 0, i => by
    show Nat.testBit 0 i = _
    rw [Nat.zero_testBit, decide_eq_false (Nat.not_lt_zero i)]
    rfl
  | n + 1, i => by
    have a := ms_lt p n
    have ih := ms_bit p n
    show Nat.testBit (ms p n + (bif p (n + 1) then 2 ^ n else 0)) i = _
    by_cases h1 : i < n
    · rw [decide_eq_true (show i < n + 1 by omega)]
      have e := ih i
      rw [decide_eq_true h1] at e
      cases p (n + 1) with
      | true =>
        show Nat.testBit (ms p n + 2 ^ n) i = _
        rw [Nat.add_comm, Nat.testBit_two_pow_add_gt h1]
        exact e
      | false => exact e
    · by_cases h2 : i = n
      · subst h2
        rw [decide_eq_true (show i < i + 1 by omega)]
        cases hp : p (i + 1) with
        | true =>
          show Nat.testBit (ms p i + 2 ^ i) i = _
          rw [Nat.add_comm, Nat.testBit_two_pow_add_eq, Nat.testBit_lt_two_pow a]
          rfl
        | false =>
          show Nat.testBit (ms p i + 0) i = _
          rw [Nat.add_zero, Nat.testBit_lt_two_pow a]
          rfl
      · rw [decide_eq_false (show ¬ i < n + 1 by omega)]
        have b := ms_lt p (n + 1)
        have c : 2 ^ (n + 1) ≤ 2 ^ i := Nat.pow_le_pow_right (by omega) (by omega)
        exact Nat.testBit_lt_two_pow (Nat.lt_of_lt_of_le b c)
theorem ms_eq {p q : Nat → Bool} {n : Nat} (h : ∀ k, 1 ≤ k → k ≤ n → p k = q k) : ms p n = ms q n := by
  induction n with
  | zero => rfl
  | succ n ih =>
    show ms p n + (bif p (n + 1) then 2 ^ n else 0) = ms q n + (bif q (n + 1) then 2 ^ n else 0)
    rw [ih (fun k a b => h k a (by omega)), h (n + 1) (by omega) (by omega)]
theorem ms_or (p q : Nat → Bool) (n : Nat) : ms p n ||| ms q n = ms (fun k => p k || q k) n := Nat.eq_of_testBit_eq (fun i => by
  rw [Nat.testBit_or, ms_bit, ms_bit, ms_bit]
  cases decide (i < n) <;> rfl)
theorem ms_inj {p q : Nat → Bool} {n k : Nat} (h : ms p n = ms q n) (h1 : 1 ≤ k) (h2 : k ≤ n) : p k = q k := by
  have a := ms_bit p n (k - 1)
  have b := ms_bit q n (k - 1)
  rw [h, b, decide_eq_true (show k - 1 < n by omega), show k - 1 + 1 = k by omega] at a
  exact a.symm
/-! two sides of numbers -/
noncomputable def sd (p q : Nat → Bool) (k : Nat) : Nat := bif p k then 1 else bif q k then 2 else 0
noncomputable def cxs (p q : Nat → Bool) : Nat → Nat × Nat
  | 0 => (0, 0)
  | n + 1 => (bif Nat.beq (sd p q (n + 1)) 0 then (cxs p q n).1 else sd p q (n + 1), bif Nat.beq (cxs p q n).1 0 || (Nat.beq (sd p q (n + 1)) 0 || Nat.beq (sd p q (n + 1)) (cxs p q n).1) then (cxs p q n).2 else (cxs p q n).2 + 1)
noncomputable def Ch (f : Nat → Nat) : Nat → Nat → Nat → Prop
  | 0, _, _ => True
  | m + 1, x, n => ∃ k, 1 ≤ k ∧ k ≤ n ∧ f k = x ∧ Ch f m (3 - x) (k - 1)
theorem Ch_up {f : Nat → Nat} {m x n n' : Nat} (h : n ≤ n') (c : Ch f m x n) : Ch f m x n' := by
  cases m with
  | zero => trivial
  | succ m =>
    obtain ⟨k, h1, h2, h3⟩ := c
    exact ⟨k, h1, by omega, h3⟩
theorem Ch_dn {f : Nat → Nat} : ∀ {m x n : Nat}, Ch f (m + 1) x n → Ch f m x n
  | 0, _, _, _ => trivial
  | m + 1, _, _, ⟨k, h1, h2, h3, h4⟩ => ⟨k, h1, h2, h3, Ch_dn h4⟩
theorem Ch_le {f : Nat → Nat} {m x n : Nat} (j : Nat) (c : Ch f (m + j) x n) : Ch f m x n := by
  induction j with
  | zero => exact c
  | succ j ih => exact ih (Ch_dn c)
theorem Ch_no {f : Nat → Nat} {m x n : Nat} (hx : f (n + 1) ≠ x) (c : Ch f (m + 1) x (n + 1)) : Ch f (m + 1) x n := by
  obtain ⟨k, h1, h2, h3, h4⟩ := c
  by_cases e : k = n + 1
  · rw [e] at h3; exact absurd h3 hx
  · exact ⟨k, h1, by omega, h3, h4⟩
theorem sd_le (p q : Nat → Bool) (k : Nat) : sd p q k ≤ 2 := by
  unfold sd
  cases p k with
  | true => show 1 ≤ 2; omega
  | false => cases q k with
    | true => show 2 ≤ 2; omega
    | false => show 0 ≤ 2; omega
theorem cxs_ok (p q : Nat → Bool) : ∀ n, ((cxs p q n).1 = 0 ∧ (cxs p q n).2 = 0 ∧ ∀ k, 1 ≤ k → k ≤ n → sd p q k = 0) ∨ (((cxs p q n).1 = 1 ∨ (cxs p q n).1 = 2) ∧ Ch (sd p q) ((cxs p q n).2 + 1) (cxs p q n).1 n ∧ ¬ Ch (sd p q) ((cxs p q n).2 + 2) (cxs p q n).1 n ∧ ¬ Ch (sd p q) ((cxs p q n).2 + 1) (3 - (cxs p q n).1) n)
  | 0 => .inl ⟨rfl, rfl, fun k h1 h2 => by omega⟩
  | n + 1 => by
    have ih := cxs_ok p q n
    have ht := sd_le p q (n + 1)
    have e1 : (cxs p q (n + 1)).1 = (bif Nat.beq (sd p q (n + 1)) 0 then (cxs p q n).1 else sd p q (n + 1)) := rfl
    have e2 : (cxs p q (n + 1)).2 = (bif Nat.beq (cxs p q n).1 0 || (Nat.beq (sd p q (n + 1)) 0 || Nat.beq (sd p q (n + 1)) (cxs p q n).1) then (cxs p q n).2 else (cxs p q n).2 + 1) := rfl
    generalize (cxs p q (n + 1)).1 = S' at e1 ⊢
    generalize (cxs p q (n + 1)).2 = C' at e2 ⊢
    generalize (cxs p q n).1 = S at ih e1 e2
    generalize (cxs p q n).2 = C at ih e2
    by_cases t0 : sd p q (n + 1) = 0
    · rw [nbeq.mpr t0] at e1 e2
      have e1 : S' = S := e1
      have e2 : C' = C := by
        rw [e2]
        cases Nat.beq S 0 <;> rfl
      rw [e1, e2]
      rcases ih with ⟨a, b, c⟩ | ⟨a, b, c, d⟩
      · refine .inl ⟨a, b, fun k h1 h2 => ?_⟩
        by_cases e : k = n + 1
        · rw [e]; exact t0
        · exact c k h1 (by omega)
      · exact .inr ⟨a, Ch_up (by omega) b, fun z => c (Ch_no (by omega) z), fun z => d (Ch_no (by omega) z)⟩
    · rw [nbeqF t0] at e1 e2
      have e1 : S' = sd p q (n + 1) := e1
      rcases ih with ⟨a, b, c⟩ | ⟨a, b, c, d⟩
      · rw [nbeq.mpr a] at e2
        have e2 : C' = C := e2
        rw [e1, e2, b]
        have no : ∀ m x, x ≠ 0 → ¬ Ch (sd p q) (m + 1) x n := fun m x hx z => by
          obtain ⟨k, h1, h2, h3, -⟩ := z
          rw [c k h1 h2] at h3
          exact hx h3.symm
        refine .inr ⟨by omega, ⟨n + 1, by omega, Nat.le_refl _, rfl, trivial⟩, fun z => ?_, fun z => no 0 _ (by omega) (Ch_no (by omega) z)⟩
        obtain ⟨k, h1, h2, h3, h4⟩ := z
        exact no 0 (3 - sd p q (n + 1)) (by omega) (Ch_up (by omega) h4)
      · rw [nbeqF (show S ≠ 0 by omega)] at e2
        by_cases ts : sd p q (n + 1) = S
        · rw [nbeq.mpr ts] at e2
          have e2 : C' = C := e2
          rw [e1, e2, ts]
          refine .inr ⟨a, Ch_up (by omega) b, fun z => ?_, fun z => d (Ch_no (by omega) z)⟩
          obtain ⟨k, h1, h2, h3, h4⟩ := z
          by_cases e : k = n + 1
          · subst e
            exact d h4
          · exact c ⟨k, h1, by omega, h3, h4⟩
        · rw [nbeqF ts] at e2
          have e2 : C' = C + 1 := e2
          have e3 : 3 - sd p q (n + 1) = S := by omega
          rw [e1, e2, e3]
          refine .inr ⟨by omega, ⟨n + 1, by omega, Nat.le_refl _, rfl, by rw [e3]; exact b⟩, fun z => ?_, fun z => c (Ch_no (by omega) z)⟩
          obtain ⟨k, h1, h2, h3, h4⟩ := z
          rw [e3] at h4
          exact c (Ch_up (by omega) h4)
theorem cxs_3 (p q : Nat → Bool) (n : Nat) : 3 ≤ (cxs p q n).2 ↔ ∃ x, (x = 1 ∨ x = 2) ∧ Ch (sd p q) 4 x n := by
  have h := cxs_ok p q n
  generalize (cxs p q n).1 = S at h
  generalize (cxs p q n).2 = C at h ⊢
  constructor
  · intro c3
    rcases h with ⟨a, b, c⟩ | ⟨a, b, c, d⟩
    · omega
    · refine ⟨S, a, Ch_le (C - 3) ?_⟩
      rw [show 4 + (C - 3) = C + 1 by omega]
      exact b
  · rintro ⟨x, hx, c4⟩
    refine Classical.byContradiction (fun q3 => ?_)
    rcases h with ⟨a, b, c⟩ | ⟨a, b, c, d⟩
    · obtain ⟨k, h1, h2, h3, -⟩ := c4
      rw [c k h1 h2] at h3
      omega
    · by_cases e : x = S
      · subst e
        refine c (Ch_le (2 - C) ?_)
        rw [show C + 2 + (2 - C) = 4 by omega]
        exact c4
      · refine d (Ch_le (3 - C) ?_)
        rw [show C + 1 + (3 - C) = 4 by omega, show 3 - S = x by omega]
        exact c4
theorem Ch4 {f : Nat → Nat} {x n : Nat} (hx : x = 1 ∨ x = 2) : Ch f 4 x n ↔ ∃ a b c d, 1 ≤ a ∧ a < b ∧ b < c ∧ c < d ∧ d ≤ n ∧ f a = 3 - x ∧ f b = x ∧ f c = 3 - x ∧ f d = x := by
  have e : 3 - (3 - x) = x := by omega
  constructor
  · rintro ⟨d, d1, d2, d3, c, c1, c2, c3, b, b1, b2, b3, a, a1, a2, a3, -⟩
    rw [e] at b3 a3
    exact ⟨a, b, c, d, a1, by omega, by omega, by omega, d2, a3, b3, c3, d3⟩
  · rintro ⟨a, b, c, d, h1, h2, h3, h4, h5, ea, eb, ec, ed⟩
    refine ⟨d, by omega, h5, ed, c, by omega, by omega, ec, b, by omega, by omega, by rw [e]; exact eb, a, h1, by omega, by rw [e]; exact ea, trivial⟩
/-! blocks -/
end
