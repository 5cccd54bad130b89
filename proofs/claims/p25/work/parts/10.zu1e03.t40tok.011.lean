section
noncomputable def inW (b : Nat → Nat) (x y : Nat) (k : Nat) : Bool := Nat.beq (b k) (b x) || Nat.beq (b k) (b y)
theorem inW_iff {b : Nat → Nat} {x y k : Nat} : inW b x y k = true ↔ (b k = b x ∨ b k = b y) := by
  unfold inW
  rw [Bool.or_eq_true, nbeq, nbeq]
theorem inW_F {b : Nat → Nat} {x y k : Nat} : inW b x y k = false ↔ ¬ (b k = b x ∨ b k = b y) := by
  rw [← inW_iff]
  cases inW b x y k <;> simp
theorem wj_T {b : Nat → Nat} {x y k : Nat} (h : inW b x y k = true) : wj b x y k = 0 := if_pos (inW_iff.mp h)
theorem wj_F {b : Nat → Nat} {x y k : Nat} (h : inW b x y k = false) : wj b x y k = b k := if_neg (inW_F.mp h)
/-- no two blocks cross -/
noncomputable def NC (b : Nat → Nat) (n : Nat) : Prop := ¬ XC b n
theorem XC_iff {b : Nat → Nat} {x y n : Nat} (hb : ∀ k, 1 ≤ k → k ≤ n → 1 ≤ b k) (N : NC b n) : XC (wj b x y) n ↔ ∃ k, 1 ≤ k ∧ k ≤ n ∧ inW b x y k = false ∧ 3 ≤ (cxs (inW b x y) (fun i => Nat.beq (b i) (b k)) n).2 := by
  constructor
  · rintro ⟨p, q, r, s, h1, h2, h3, h4, h5, e1, e2, e3⟩
    have mk : ∀ k, 1 ≤ k → k ≤ n → inW b x y k = false → ∀ {i : Nat}, inW b x y i = true → sd (inW b x y) (fun i => Nat.beq (b i) (b k)) i = 1 := fun k _ _ _ i hi => by unfold sd; rw [hi]; rfl
    have mk2 : ∀ k, ∀ {i : Nat}, inW b x y i = false → b i = b k → sd (inW b x y) (fun i => Nat.beq (b i) (b k)) i = 2 := fun k i hi e => by
      unfold sd
      rw [hi]
      show (bif Nat.beq (b i) (b k) then 2 else 0) = 2
      rw [nbeq.mpr e]
      rfl
    cases hp : inW b x y p with
    | true =>
      rw [wj_T hp] at e1 e2
      have hr : inW b x y r = true := by
        cases hr : inW b x y r with
        | true => rfl
        | false => rw [wj_F hr] at e2; have := hb r (by omega) (by omega); omega
      have hq : inW b x y q = false := by
        cases hq : inW b x y q with
        | false => rfl
        | true => rw [wj_T hq] at e1; exact absurd rfl e1
      have hs : inW b x y s = false := by
        cases hs : inW b x y s with
        | false => rfl
        | true => rw [wj_T hs, wj_F hq] at e3; have := hb q (by omega) (by omega); omega
      rw [wj_F hq, wj_F hs] at e3
      refine ⟨q, by omega, by omega, hq, (cxs_3 _ _ _).mpr ⟨2, .inr rfl, (Ch4 (.inr rfl)).mpr ⟨p, q, r, s, h1, h2, h3, h4, h5, ?_, ?_, ?_, ?_⟩⟩⟩
      · exact mk q (by omega) (by omega) hq hp
      · exact mk2 q hq rfl
      · exact mk q (by omega) (by omega) hq hr
      · exact mk2 q hs e3.symm
    | false =>
      rw [wj_F hp] at e1 e2
      have hr : inW b x y r = false := by
        cases hr : inW b x y r with
        | false => rfl
        | true => rw [wj_T hr] at e2; have := hb p (by omega) (by omega); omega
      rw [wj_F hr] at e2
      cases hq : inW b x y q with
      | true =>
        have hs : inW b x y s = true := by
          cases hs : inW b x y s with
          | true => rfl
          | false => rw [wj_F hs, wj_T hq] at e3; have := hb s (by omega) (by omega); omega
        refine ⟨p, by omega, by omega, hp, (cxs_3 _ _ _).mpr ⟨1, .inl rfl, (Ch4 (.inl rfl)).mpr ⟨p, q, r, s, h1, h2, h3, h4, h5, ?_, ?_, ?_, ?_⟩⟩⟩
        · exact mk2 p hp rfl
        · exact mk p (by omega) (by omega) hp hq
        · exact mk2 p hr e2.symm
        · exact mk p (by omega) (by omega) hp hs
      | false =>
        have hs : inW b x y s = false := by
          cases hs : inW b x y s with
          | false => rfl
          | true => rw [wj_T hs, wj_F hq] at e3; have := hb q (by omega) (by omega); omega
        rw [wj_F hq] at e1 e3
        rw [wj_F hs] at e3
        exact absurd ⟨p, q, r, s, h1, h2, h3, h4, h5, e1, e2, e3⟩ N
  · rintro ⟨k, k1, k2, k3, k4⟩
    obtain ⟨z, hz, c⟩ := (cxs_3 _ _ _).mp k4
    obtain ⟨p, q, r, s, h1, h2, h3, h4, h5, ea, eb, ec, ed⟩ := (Ch4 hz).mp c
    have s1 : ∀ {i : Nat}, sd (inW b x y) (fun i => Nat.beq (b i) (b k)) i = 1 → wj b x y i = 0 := fun {i} h => by
      cases hi : inW b x y i with
      | true => exact wj_T hi
      | false =>
        unfold sd at h
        rw [hi] at h
        have h : (bif Nat.beq (b i) (b k) then 2 else 0) = 1 := h
        cases hq : Nat.beq (b i) (b k) with
        | true => rw [hq] at h; cases h
        | false => rw [hq] at h; cases h
    have s2 : ∀ {i : Nat}, sd (inW b x y) (fun i => Nat.beq (b i) (b k)) i = 2 → wj b x y i = b k := fun {i} h => by
      cases hi : inW b x y i with
      | true => unfold sd at h; rw [hi] at h; cases h
      | false =>
        unfold sd at h
        rw [hi] at h
        have h : (bif Nat.beq (b i) (b k) then 2 else 0) = 2 := h
        cases hq : Nat.beq (b i) (b k) with
        | true => rw [wj_F hi]; exact nbeq.mp hq
        | false => rw [hq] at h; cases h
    have bk := hb k k1 k2
    rcases hz with rfl | rfl
    · exact ⟨p, q, r, s, h1, h2, h3, h4, h5, by rw [s2 ea, s1 eb]; omega, by rw [s2 ea, s2 ec], by rw [s1 eb, s1 ed]⟩
    · exact ⟨p, q, r, s, h1, h2, h3, h4, h5, by rw [s1 ea, s2 eb]; omega, by rw [s1 ea, s1 ec], by rw [s2 eb, s2 ed]⟩
theorem mg_T {b : Nat → Nat} {x y k : Nat} (hk : 1 ≤ k) (h : inW b x y k = true) : mg b x y k = min (b x) (b y) := by
  have := inW_iff.mp h
  unfold mg
  by_cases q : 1 ≤ k ∧ b k = max (b x) (b y)
  · rw [if_pos q]
  · rw [if_neg q]; omega
theorem mg_F {b : Nat → Nat} {x y k : Nat} (h : inW b x y k = false) : mg b x y k = b k := by
  have := inW_F.mp h
  unfold mg
  rw [if_neg (by omega)]
theorem mg_eq {b : Nat → Nat} {x y i k : Nat} (hi : 1 ≤ i) (hk : 1 ≤ k) : mg b x y i = mg b x y k ↔ ((inW b x y i = true ∧ inW b x y k = true) ∨ (inW b x y i = false ∧ inW b x y k = false ∧ b i = b k)) := by
  cases h1 : inW b x y i with
  | true =>
    rw [mg_T hi h1]
    cases h2 : inW b x y k with
    | true => rw [mg_T hk h2]; simp
    | false =>
      rw [mg_F h2]
      have := inW_F.mp h2
      constructor
      · intro q; omega
      · rintro (⟨_, q⟩ | ⟨q, _⟩) <;> cases q
  | false =>
    rw [mg_F h1]
    have a1 := inW_F.mp h1
    cases h2 : inW b x y k with
    | true =>
      rw [mg_T hk h2]
      constructor
      · intro q; omega
      · rintro (⟨q, _⟩ | ⟨_, q, _⟩) <;> cases q
    | false => rw [mg_F h2]; simp
theorem wj_mg {b : Nat → Nat} {x y n : Nat} (hb : ∀ k, 1 ≤ k → k ≤ n → 1 ≤ b k) {i k : Nat} (hi : 1 ≤ i) (hi2 : i ≤ n) (hk : 1 ≤ k) (hk2 : k ≤ n) : wj b x y i = wj b x y k ↔ mg b x y i = mg b x y k := by
  rw [mg_eq hi hk]
  have b1 := hb i hi hi2
  have b2 := hb k hk hk2
  cases h1 : inW b x y i with
  | true =>
    rw [wj_T h1]
    cases h2 : inW b x y k with
    | true => rw [wj_T h2]; simp
    | false =>
      rw [wj_F h2]
      constructor
      · intro q; omega
      · rintro (⟨_, q⟩ | ⟨q, _⟩) <;> cases q
  | false =>
    rw [wj_F h1]
    cases h2 : inW b x y k with
    | true =>
      rw [wj_T h2]
      constructor
      · intro q; omega
      · rintro (⟨q, _⟩ | ⟨_, q, _⟩) <;> cases q
    | false => rw [wj_F h2]; simp
theorem NC_mg {b : Nat → Nat} {x y n : Nat} (hb : ∀ k, 1 ≤ k → k ≤ n → 1 ≤ b k) (h : ¬ XC (wj b x y) n) : NC (mg b x y) n := by
  rintro ⟨p, q, r, s, h1, h2, h3, h4, h5, e1, e2, e3⟩
  exact h ⟨p, q, r, s, h1, h2, h3, h4, h5, fun z => e1 ((wj_mg hb (by omega) (by omega) (by omega) (by omega)).mp z), (wj_mg hb (by omega) (by omega) (by omega) (by omega)).mpr e2, (wj_mg hb (by omega) (by omega) (by omega) (by omega)).mpr e3⟩
theorem NC_id (n : Nat) : NC (fun k => k) n := by
  rintro ⟨p, q, r, s, h1, h2, h3, h4, h5, e1, e2, e3⟩
  have e2 : p = r := e2
  omega
end

