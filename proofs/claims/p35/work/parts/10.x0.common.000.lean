section
/-! by hand: the common divisor (a recursion that halves) -/
theorem cm_ifT {look : Nat → Option pm_I} {call : pm_Call} {z : Bool} {t n : Nat} {ρ : List (Nat × Value) × List Value × pm_H × Nat × Nat} {o : pm_H × Option Value} (hz : z = true) (k : pm_Go look call (t, ρ) o) : pm_Go look call (bif z then t else n, ρ) o := by subst hz; exact k
theorem cm_ifF {look : Nat → Option pm_I} {call : pm_Call} {z : Bool} {t n : Nat} {ρ : List (Nat × Value) × List Value × pm_H × Nat × Nat} {o : pm_H × Option Value} (hz : z = false) (k : pm_Go look call (n, ρ) o) : pm_Go look call (bif z then t else n, ρ) o := by subst hz; exact k
theorem cm_rem {a b : Int64} {d : Nat} {h : pm_H} {g : Int64} (hb : ¬ b = 0) (hc : pm_Rt pm_P d 230 h [.long b, .long (a - a / b * b)] h (some (.long g))) : pm_Rt pm_P (d + 1) 230 h [.long a, .long b] h (some (.long g)) := by
  refine ⟨iX9_common, aiX9_common, by show 4 ≤ 4; exact Nat.le_refl 4, ?_⟩
  have hcmp : ¬ lg_cmp b 0 = 0 := fun e => hb ((lg_cmp_eq b 0).mp e)
  show pm_Go (pm_at tX9_common) (pm_Rt pm_P d) (0, [(0, .long a), (2, .long b)], [], h, 0, 0) (h, some (.long g))
  refine Go_st (σ' := (1, [(0, .long a), (2, .long b)], [.long b], h, 0, 0)) rfl rfl ?_
  refine Go_st (σ' := (2, [(0, .long a), (2, .long b)], [.long 0, .long b], h, 0, 0)) rfl rfl ?_
  refine Go_st (σ' := (3, [(0, .long a), (2, .long b)], [.int (lg_cmp b 0)], h, 0, 0)) rfl rfl ?_
  refine Go_st (σ' := (bif decide (¬ lg_cmp b 0 = 0) then 21 else 6, [(0, .long a), (2, .long b)], [], h, 0, 0)) rfl rfl ?_
  refine cm_ifT (decide_eq_true hcmp) ?_
  refine Go_st (σ' := (22, [(0, .long a), (2, .long b)], [.long b], h, 0, 0)) rfl rfl ?_
  refine Go_st (σ' := (23, [(0, .long a), (2, .long b)], [.long a, .long b], h, 0, 0)) rfl rfl ?_
  refine Go_st (σ' := (24, [(0, .long a), (2, .long b)], [.long b, .long a, .long b], h, 0, 0)) rfl rfl ?_
  refine Go_st (σ' := (25, [(0, .long a), (2, .long b)], [.long (a - a / b * b), .long b], h, 0, 0)) rfl (by simp only [s_ldiv, if_neg hb]) ?_
  refine Go_call (h' := h) (r := some (.long g)) rfl hc ⟨Nat.le_refl 2, (fun _ hq => nomatch hq), Nat.zero_le 8, Nat.zero_le _, Nat.zero_le _⟩ ?_
  exact Go_ret rfl ⟨g, rfl, rfl⟩
theorem cm_end {a : Int64} {d : Nat} {h : pm_H} (ha : ¬ a.toInt = 0) (hm : -9223372036854775808 < a.toInt) : ∃ g : Int64, 1 ≤ g.toInt ∧ pm_Rt pm_P (d + 1) 230 h [.long a, .long 0] h (some (.long g)) := by
  have h0 : (0 : Int64).toInt = 0 := rfl
  have hcmp : lg_cmp 0 0 = 0 := (lg_cmp_eq 0 0).mpr rfl
  by_cases hs : a.toInt < 0
  · refine ⟨-a, ?_, iX9_common, aiX9_common, by show 4 ≤ 4; exact Nat.le_refl 4, ?_⟩
    · rw [Int64.toInt_neg, al_bmod (by omega) (by have := al_hi a; omega)]
      omega
    · have hc2 : ¬ 0 ≤ lg_cmp a 0 := fun e => by
        have := (lg_cmp_ge a 0).mp e
        rw [Int64.le_iff_toInt_le] at this
        omega
      show pm_Go (pm_at tX9_common) (pm_Rt pm_P d) (0, [(0, .long a), (2, .long 0)], [], h, 0, 0) (h, some (.long (-a)))
      refine Go_st (σ' := (1, [(0, .long a), (2, .long 0)], [.long 0], h, 0, 0)) rfl rfl ?_
      refine Go_st (σ' := (2, [(0, .long a), (2, .long 0)], [.long 0, .long 0], h, 0, 0)) rfl rfl ?_
      refine Go_st (σ' := (3, [(0, .long a), (2, .long 0)], [.int (lg_cmp 0 0)], h, 0, 0)) rfl rfl ?_
      refine Go_st (σ' := (bif decide (¬ lg_cmp 0 0 = 0) then 21 else 6, [(0, .long a), (2, .long 0)], [], h, 0, 0)) rfl rfl ?_
      refine cm_ifF (decide_eq_false (fun e => e hcmp)) ?_
      refine Go_st (σ' := (7, [(0, .long a), (2, .long 0)], [.long a], h, 0, 0)) rfl rfl ?_
      refine Go_st (σ' := (8, [(0, .long a), (2, .long 0)], [.long 0, .long a], h, 0, 0)) rfl rfl ?_
      refine Go_st (σ' := (9, [(0, .long a), (2, .long 0)], [.int (lg_cmp a 0)], h, 0, 0)) rfl rfl ?_
      refine Go_st (σ' := (bif decide (0 ≤ lg_cmp a 0) then 17 else 12, [(0, .long a), (2, .long 0)], [], h, 0, 0)) rfl rfl ?_
      refine cm_ifF (decide_eq_false hc2) ?_
      refine Go_st (σ' := (13, [(0, .long a), (2, .long 0)], [.long a], h, 0, 0)) rfl rfl ?_
      refine Go_st (σ' := (14, [(0, .long a), (2, .long 0)], [.long (-a)], h, 0, 0)) rfl rfl ?_
      refine Go_st (σ' := (28, [(0, .long a), (2, .long 0)], [.long (-a)], h, 0, 0)) rfl rfl ?_
      exact Go_ret rfl ⟨-a, rfl, rfl⟩
  · refine ⟨a, by omega, iX9_common, aiX9_common, by show 4 ≤ 4; exact Nat.le_refl 4, ?_⟩
    have hc2 : 0 ≤ lg_cmp a 0 := (lg_cmp_ge a 0).mpr (by rw [Int64.le_iff_toInt_le]; omega)
    show pm_Go (pm_at tX9_common) (pm_Rt pm_P d) (0, [(0, .long a), (2, .long 0)], [], h, 0, 0) (h, some (.long a))
    refine Go_st (σ' := (1, [(0, .long a), (2, .long 0)], [.long 0], h, 0, 0)) rfl rfl ?_
    refine Go_st (σ' := (2, [(0, .long a), (2, .long 0)], [.long 0, .long 0], h, 0, 0)) rfl rfl ?_
    refine Go_st (σ' := (3, [(0, .long a), (2, .long 0)], [.int (lg_cmp 0 0)], h, 0, 0)) rfl rfl ?_
    refine Go_st (σ' := (bif decide (¬ lg_cmp 0 0 = 0) then 21 else 6, [(0, .long a), (2, .long 0)], [], h, 0, 0)) rfl rfl ?_
    refine cm_ifF (decide_eq_false (fun e => e hcmp)) ?_
    refine Go_st (σ' := (7, [(0, .long a), (2, .long 0)], [.long a], h, 0, 0)) rfl rfl ?_
    refine Go_st (σ' := (8, [(0, .long a), (2, .long 0)], [.long 0, .long a], h, 0, 0)) rfl rfl ?_
    refine Go_st (σ' := (9, [(0, .long a), (2, .long 0)], [.int (lg_cmp a 0)], h, 0, 0)) rfl rfl ?_
    refine Go_st (σ' := (bif decide (0 ≤ lg_cmp a 0) then 17 else 12, [(0, .long a), (2, .long 0)], [], h, 0, 0)) rfl rfl ?_
    refine cm_ifT (decide_eq_true hc2) ?_
    refine Go_st (σ' := (18, [(0, .long a), (2, .long 0)], [.long a], h, 0, 0)) rfl rfl ?_
    refine Go_st (σ' := (28, [(0, .long a), (2, .long 0)], [.long a], h, 0, 0)) rfl rfl ?_
    exact Go_ret rfl ⟨a, rfl, rfl⟩
/-- the rest of longs -/
theorem cm_tmod {a b : Int64} (hb : ¬ b.toInt = 0) : (a - a / b * b).toInt = a.toInt.tmod b.toInt := by
  have l := al_lo a
  have u := al_hi a
  have d := Int.tmod_def a.toInt b.toInt
  have hq : (a / b * b).toInt = (a.toInt.tdiv b.toInt * b.toInt).bmod (2 ^ 64) := by
    rw [Int64.toInt_mul, Int64.toInt_div, Int.bmod_mul_bmod]
  have hm : a.toInt.tdiv b.toInt * b.toInt = a.toInt - a.toInt.tmod b.toInt := by rw [Int.mul_comm]; omega
  rw [Int64.toInt_sub, hq, hm, Int.sub_bmod_bmod, show a.toInt - (a.toInt - a.toInt.tmod b.toInt) = a.toInt.tmod b.toInt by omega]
  have hb1 := al_lo b
  have hb2 := al_hi b
  have hlt : a.toInt.tmod b.toInt < 9223372036854775808 ∧ -9223372036854775808 < a.toInt.tmod b.toInt := by
    by_cases hp : 0 < b.toInt
    · have t1 := Int.tmod_lt_of_pos a.toInt hp
      have t2 := Int.lt_tmod_of_pos a.toInt hp
      omega
    · have hp : 0 < -b.toInt := by omega
      have t1 := Int.tmod_lt_of_pos a.toInt hp
      have t2 := Int.lt_tmod_of_pos a.toInt hp
      rw [Int.tmod_neg] at t1 t2
      omega
  exact al_bmod (by omega) (by omega)
theorem cm_abs {x y : Int} (hy : y ≠ 0) : (x.tmod y).natAbs < y.natAbs ∧ (y.natAbs ≤ x.natAbs → 2 * (x.tmod y).natAbs < x.natAbs) := by
  have e : (x.tmod y).natAbs = x.natAbs % y.natAbs := Int.natAbs_tmod x y
  rw [e]
  have hp : 0 < y.natAbs := Int.natAbs_pos.mpr hy
  have h1 := Nat.mod_lt x.natAbs hp
  refine ⟨h1, fun hle => ?_⟩
  have h2 := Nat.div_add_mod x.natAbs y.natAbs
  have h3 : 1 ≤ x.natAbs / y.natAbs := (Nat.le_div_iff_mul_le hp).mpr (by omega)
  have h4 : y.natAbs * 1 ≤ y.natAbs * (x.natAbs / y.natAbs) := Nat.mul_le_mul_left _ h3
  omega
theorem cm_all : ∀ (k : Nat) (a b : Int64) (h : pm_H), ¬ b.toInt = 0 → -9223372036854775808 < b.toInt → b.toInt.natAbs < 2 ^ k → ∃ g : Int64, 1 ≤ g.toInt ∧ pm_Rt pm_P (2 * k + 2) 230 h [.long a, .long b] h (some (.long g))
  | 0, a, b, h, hb, _, hk => by
    exfalso
    have : 0 < b.toInt.natAbs := Int.natAbs_pos.mpr hb
    omega
  | k + 1, a, b, h, hb, hm, hk => by
    have hb0 : ¬ b = 0 := fun e => hb (by rw [e]; rfl)
    have r1 := cm_tmod (a := a) hb
    have s1 := cm_abs (x := a.toInt) (y := b.toInt) hb
    have bl := al_lo b
    have bh := al_hi b
    show ∃ g : Int64, 1 ≤ g.toInt ∧ pm_Rt pm_P (2 * k + 2 + 1 + 1) 230 h [.long a, .long b] h (some (.long g))
    by_cases hr : (a - a / b * b).toInt = 0
    · have hr0 : a - a / b * b = 0 := Int64.toInt_inj.mp hr
      obtain ⟨g, g1, g2⟩ := cm_end (a := b) (d := 2 * k + 2) (h := h) hb hm
      exact ⟨g, g1, cm_rem hb0 (by rw [hr0]; exact g2)⟩
    · have hr0 : ¬ a - a / b * b = 0 := fun e => hr (by rw [e]; rfl)
      have rl := al_lo (a - a / b * b)
      have rm : -9223372036854775808 < (a - a / b * b).toInt := by
        rw [r1]
        have := s1.1
        omega
      have r2 := cm_tmod (a := b) hr
      have s2 := cm_abs (x := b.toInt) (y := (a - a / b * b).toInt) hr
      have hle : (a - a / b * b).toInt.natAbs ≤ b.toInt.natAbs := by rw [r1]; omega
      have s3 := s2.2 hle
      by_cases hq : (b - b / (a - a / b * b) * (a - a / b * b)).toInt = 0
      · have hq0 : b - b / (a - a / b * b) * (a - a / b * b) = 0 := Int64.toInt_inj.mp hq
        obtain ⟨g, g1, g2⟩ := cm_end (a := a - a / b * b) (d := 2 * k + 1) (h := h) hr rm
        exact ⟨g, g1, cm_rem hb0 (cm_rem hr0 (by rw [hq0]; exact g2))⟩
      · have q1 : (b - b / (a - a / b * b) * (a - a / b * b)).toInt.natAbs < 2 ^ k := by
          rw [r2]
          have : 2 ^ (k + 1) = 2 * 2 ^ k := by rw [Nat.pow_succ, Nat.mul_comm]
          omega
        have q2 : -9223372036854775808 < (b - b / (a - a / b * b) * (a - a / b * b)).toInt := by
          rw [r2]
          have := s2.1
          omega
        obtain ⟨g, g1, g2⟩ := cm_all k (a - a / b * b) (b - b / (a - a / b * b) * (a - a / b * b)) h hq q2 q1
        exact ⟨g, g1, cm_rem hb0 (cm_rem hr0 g2)⟩
theorem common_sum (a1 a2 b1 b2 : Int) (h1 : decide (1 ≤ b1) = true) (h2 : decide (b2 < 134217728) = true) : sum_g w0 (pm_Rt pm_P 56) (230, [cL a1 a2, cL b1 b2], [], [], [], [([cL a1 a2, cL b1 b2], [], [], some (.inl (cL 1 9223372036854775807)))]) := by
  have h1 := of_decide_eq_true h1
  have h2 := of_decide_eq_true h2
  intro h as hh ha _ _
  match as, ha with
  | [.long a, .long b], ha =>
    have hb : b1 ≤ b.toInt ∧ b.toInt ≤ b2 := ha.2.1
    obtain ⟨g, g1, g2⟩ := cm_all 27 a b h (by omega) (by omega) (by have : (2 : Nat) ^ 27 = 134217728 := rfl; omega)
    exact ⟨h, some (.long g), g2, hh, fun _ _ _ => rfl, _, List.mem_singleton_self _, ha, fun q hq => absurd hq List.not_mem_nil, fun i hi => absurd hi List.not_mem_nil, g1, al_hi g⟩
end
section
/-! facts of the ring: how many places are held, how far the next free one is; cars and places of a row -/
/-- what holds a place -/
noncomputable def hv (h : pm_H) (q : Nat) : Int := match ld h 90 q with
  | some (.int x) => x.toInt
  | _ => 0
noncomputable def cntf (f : Nat → Int) (v : Nat) : Nat → Nat
  | 0 => 0
  | R + 1 => cntf f v R + (if R + 1 = v ∨ f (R + 1) = -1 then 0 else 1)
noncomputable def hfd (f : Nat → Int) (R : Nat) : Nat → Nat → Prop
  | 0, v => f v = -1
  | d + 1, v => f v = -1 ∨ hfd f R d (v % R + 1)
theorem cntf_eq {f g : Nat → Int} {v : Nat} : ∀ {R : Nat}, (∀ q, q ≤ R → q ≠ v → f q = g q) → cntf f v R = cntf g v R
  | 0, _ => rfl
  | R + 1, h => by
    unfold cntf
    rw [cntf_eq (R := R) (fun q hq hv => h q (by omega) hv)]
    by_cases hR : R + 1 = v
    · simp only [hR, true_or]
    · rw [h (R + 1) (Nat.le_refl _) hR]
theorem cntf_weak {f : Nat → Int} {v : Nat} : ∀ (R : Nat), cntf f v R ≤ cntf f 10 R ∨ 9 < R
  | 0 => .inl (Nat.le_refl _)
  | R + 1 => by
    by_cases h9 : 9 < R + 1
    · exact .inr h9
    · cases cntf_weak (f := f) (v := v) R with
      | inr h => omega
      | inl h =>
        left
        unfold cntf
        by_cases h1 : f (R + 1) = -1
        · simp only [h1, or_true, if_true]; exact h
        · have h10 : ¬ R + 1 = 10 := by omega
          simp only [h1, or_false, h10, if_false]
          split <;> omega
/-- one place more may be held -/
theorem cntf_inc {f g : Nat → Int} {v : Nat} : ∀ {R : Nat}, (∀ q, q ≤ R → q ≠ v → g q = f q) → R ≤ 9 → cntf g 10 R ≤ cntf f v R + (if v ≤ R then 1 else 0)
  | 0, _, _ => by unfold cntf; omega
  | R + 1, h, h9 => by
    have ih := cntf_inc (R := R) (fun q hq hv => h q (by omega) hv) (by omega)
    unfold cntf
    have h10 : ¬ R + 1 = 10 := by omega
    by_cases hR : R + 1 = v
    · rw [if_neg (show ¬ v ≤ R by omega)] at ih
      rw [if_pos (show R + 1 = v ∨ f (R + 1) = -1 from .inl hR), if_pos (show v ≤ R + 1 by omega)]
      split <;> omega
    · rw [h (R + 1) (Nat.le_refl _) hR]
      simp only [h10, false_or, hR]
      by_cases hv : v ≤ R
      · simp only [hv, if_true] at ih
        have : v ≤ R + 1 := by omega
        simp only [this, if_true]
        split <;> omega
      · simp only [hv, if_false] at ih
        have : ¬ v ≤ R + 1 := by omega
        simp only [this, if_false]
        split <;> omega
theorem cntf_zero {f : Nat → Int} {v : Nat} : ∀ {R : Nat}, (∀ q, 1 ≤ q → q ≤ R → f q = -1) → cntf f v R = 0
  | 0, _ => rfl
  | R + 1, h => by
    unfold cntf
    rw [cntf_zero (R := R) (fun q h1 h2 => h q h1 (by omega)), h (R + 1) (by omega) (Nat.le_refl _)]
    simp only [or_true, if_true]
theorem cntf_free {f : Nat → Int} : ∀ {R : Nat}, R ≤ 9 → cntf f 10 R < R → ∃ q, 1 ≤ q ∧ q ≤ R ∧ f q = -1
  | 0, _, h => absurd h (Nat.not_lt_zero _)
  | R + 1, h9, h => by
    by_cases h1 : f (R + 1) = -1
    · exact ⟨R + 1, by omega, Nat.le_refl _, h1⟩
    · have h10 : ¬ R + 1 = 10 := by omega
      unfold cntf at h
      simp only [h1, or_false, h10, if_false] at h
      obtain ⟨q, a, b, c⟩ := cntf_free (f := f) (R := R) (by omega) (by omega)
      exact ⟨q, a, by omega, c⟩
theorem hfd_up {f : Nat → Int} {R : Nat} : ∀ {d v : Nat}, hfd f R d v → hfd f R (d + 1) v
  | 0, _, h => .inl h
  | _ + 1, _, .inl h => .inl h
  | _ + 1, _, .inr h => .inr (hfd_up h)
theorem hfd_ups {f : Nat → Int} {R d v : Nat} (h : hfd f R d v) : ∀ {e : Nat}, d ≤ e → hfd f R e v
  | 0, he => by
    have : d = 0 := by omega
    subst this
    exact h
  | e + 1, he => by
    by_cases hd : d = e + 1
    · subst hd; exact h
    · exact hfd_up (hfd_ups h (e := e) (by omega))
theorem hfd_walk {f : Nat → Int} {R q : Nat} (hR : 0 < R) (hq : f q = -1) : ∀ (i v : Nat), 1 ≤ v → v ≤ R → (v - 1 + i) % R + 1 = q → hfd f R i v
  | 0, v, h1, h2, h3 => by
    have : v = q := by rw [← h3, Nat.add_zero, Nat.mod_eq_of_lt (by omega)]; omega
    subst this
    exact hq
  | i + 1, v, h1, h2, h3 => by
    right
    refine hfd_walk hR hq i (v % R + 1) (by omega) (by have := Nat.mod_lt v hR; omega) ?_
    rw [← h3, show v % R + 1 - 1 + i = v % R + i by omega, Nat.mod_add_mod, show v - 1 + (i + 1) = v + i by omega]
theorem hfd_free {f : Nat → Int} {R v : Nat} (h9 : R ≤ 9) (h : cntf f 10 R < R) (h1 : 1 ≤ v) (h2 : v ≤ R) : hfd f R (R - 1) v := by
  obtain ⟨q, a, b, c⟩ := cntf_free h9 h
  have hR : 0 < R := by omega
  refine hfd_ups (hfd_walk hR c ((q + R - v) % R) v h1 h2 ?_) (by have := Nat.mod_lt (q + R - v) hR; omega)
  rw [Nat.add_mod_mod, show v - 1 + (q + R - v) = (q - 1) + R by omega, Nat.add_mod_right, Nat.mod_eq_of_lt (by omega)]
  omega
theorem hfd_eq {f g : Nat → Int} {R : Nat} (hR : R ≤ 9) (hfg : ∀ q, q ≤ 100 → f q = g q) : ∀ (d v : Nat), v + d ≤ 50 → d ≤ 20 → hfd f R d v → hfd g R d v
  | 0, v, hv, _, h => by
    have h : f v = -1 := h
    show g v = -1
    rw [← hfg v (by omega)]; exact h
  | d + 1, v, hv, hd, h => by
    cases h with
    | inl h => left; rw [← hfg v (by omega)]; exact h
    | inr h =>
      right
      refine hfd_eq hR hfg d (v % R + 1) ?_ (by omega) h
      by_cases h0 : R = 0
      · subst h0; rw [Nat.mod_zero]; omega
      · have := Nat.mod_lt v (Nat.pos_of_ne_zero h0); omega
/-- what a node hangs from; how far it is to node 0 -/
noncomputable def hg (h : pm_H) (q : Nat) : Nat := match ld h 92 q with
  | some (.int x) => x.toInt.toNat
  | _ => 0
noncomputable def dep (f : Nat → Nat) : Nat → Nat → Prop
  | 0, v => v = 0
  | d + 1, v => v = 0 ∨ dep f d (f v)
theorem hg_le (h : pm_H) (q : Nat) : hg h q ≤ 2147483647 := by
  unfold hg
  split
  · rename_i x _
    have := ai_hi x
    omega
  · omega
theorem dep_eq {f g : Nat → Nat} (hf : ∀ q, f q ≤ 2147483647) (hfg : ∀ q, q ≤ 4294967295 → f q = g q) : ∀ (d v : Nat), v ≤ 2147483647 → dep f d v → dep g d v
  | 0, _, _, h => h
  | _ + 1, _, _, .inl h => .inl h
  | d + 1, v, hv', .inr h => by
    right
    rw [← hfg v (by omega)]
    exact dep_eq hf hfg d (f v) (hf v) h
/-- cars are at most places -/
noncomputable def CPf (r : Nat) (h : pm_H) : Prop := ∀ c p : Int32, ld h 84 (6 * r + 3) = some (.int c) → ld h 84 (6 * r) = some (.int p) → c.toInt ≤ p.toInt
/-- 0 .. 4: cars and places; from 8: held places; from 1200: the next free one; from 2200: what hangs from what -/
noncomputable def fl3 (i : Nat) (h : pm_H) : Prop := bif Nat.blt i 8 then CPf i h else (bif Nat.blt i 1200 then cntf (hv h) ((i - 8) % 11) ((i - 8) / 110) ≤ (i - 8) / 11 % 10 ∨ 9 < (i - 8) / 110 else (bif Nat.blt i 2200 then hfd (hv h) ((i - 1200) / 100 % 10) ((i - 1200) % 10) ((i - 1200) / 10 % 10) else dep (hg h) ((i - 2200) % 10) ((i - 2200) / 10 % 10)))
noncomputable def sp3 (i : Nat) : List Rng := bif Nat.blt i 8 then [(84, 6 * i + 3, 6 * i + 3), (84, 6 * i, 6 * i)] else (bif Nat.blt i 1200 then (bif Nat.beq ((i - 8) % 11) 0 then [(90, 1, 20)] else [(90, 0, (i - 8) % 11 - 1), (90, (i - 8) % 11 + 1, 20)]) else (bif Nat.blt i 2200 then [(90, 0, 100)] else [(92, 0, 4294967295)]))
theorem hv_eq {h h' : pm_H} {q : Nat} (e : ld h' 90 q = ld h 90 q) : hv h' q = hv h q := by unfold hv; rw [e]
set_option maxRecDepth 20000 in
theorem fl3_fr (i : Nat) (h h' : pm_H) (hf : ∀ a k, rg_in (sp3 i) a k = true → ld h' a k = ld h a k) (hi : fl3 i h) : fl3 i h' := by
  unfold fl3 sp3 at *
  cases h8 : Nat.blt i 8 with
  | true =>
    rw [h8] at hf hi
    dsimp only [cond_true] at hf hi ⊢
    intro c p h1 h2
    rw [hf 84 _ (rg_in_one (Nat.le_refl _) (Nat.le_refl _) List.mem_cons_self)] at h1
    rw [hf 84 _ (rg_in_one (Nat.le_refl _) (Nat.le_refl _) (List.mem_cons_of_mem _ (List.mem_singleton_self _)))] at h2
    exact hi c p h1 h2
  | false =>
    rw [h8] at hf hi
    dsimp only [cond_false] at hf hi ⊢
    cases h12 : Nat.blt i 1200 with
    | true =>
      rw [h12] at hf hi
      dsimp only [cond_true] at hf hi ⊢
      cases hi with
      | inr h9 => exact .inr h9
      | inl hi =>
        by_cases h9 : 9 < (i - 8) / 110
        · exact .inr h9
        · left
          rw [cntf_eq (g := hv h)]
          · exact hi
          · intro q hq hv'
            refine hv_eq (hf 90 q ?_)
            cases hb : Nat.beq ((i - 8) % 11) 0 with
            | true =>
              have h0 := Nat.eq_of_beq_eq_true hb
              exact rg_in_one (by omega) (by omega) (List.mem_singleton_self _)
            | false =>
              by_cases hlt : q < (i - 8) % 11
              · exact rg_in_one (Nat.zero_le _) (by omega) List.mem_cons_self
              · exact rg_in_one (by omega) (by omega) (List.mem_cons_of_mem _ (List.mem_singleton_self _))
    | false =>
      rw [h12] at hf hi
      dsimp only [cond_false] at hf hi ⊢
      cases h22 : Nat.blt i 2200 with
      | false =>
        rw [h22] at hf hi
        dsimp only [cond_false] at hf hi ⊢
        refine dep_eq (hg_le h) (fun q hq => ?_) _ _ (by omega) hi
        unfold hg
        rw [hf 92 q (rg_in_one (Nat.zero_le _) hq (List.mem_singleton_self _))]
      | true =>
      rw [h22] at hf hi
      dsimp only [cond_true] at hf hi ⊢
      exact hfd_eq (by omega) (fun q hq => (hv_eq (hf 90 q (rg_in_one (Nat.zero_le _) hq (List.mem_singleton_self _)))).symm) _ _ (by omega) (by omega) hi
noncomputable def fl0' (i : Nat) (h : pm_H) : Prop := bif Nat.blt i 1202 then fl0 i h else fl3 (i - 1202) h
noncomputable def sp0' (i : Nat) : List Rng := bif Nat.blt i 1202 then sp0 i else sp3 (i - 1202)
set_option maxRecDepth 20000 in
theorem fl0'_fr (i : Nat) (h h' : pm_H) (a1 : hs_g hs0 h) (a2 : hs_g hs0 h') (hf : ∀ a k, rg_in (sp0' i) a k = true → ld h' a k = ld h a k) (hi : fl0' i h) : fl0' i h' := by
  unfold fl0' sp0' at *
  cases hb : Nat.blt i 1202 with
  | true => rw [hb] at hf hi; exact fl0_fr i h h' a1 a2 hf hi
  | false => rw [hb] at hf hi; exact fl3_fr (i - 1202) h h' hf hi
noncomputable def w1 : AW := ⟨(hs0, fl0', sp0'), fl0'_fr⟩
end
section
/-! what is proved by hand, as the checks use it (written by emit.py) -/
noncomputable def So0 : Sum1 := (230, [cL (-9223372036854775808) 9223372036854775807, cL 1 1], [], [], [], [([cL (-9223372036854775808) 9223372036854775807, cL 1 1], [], [], some (.inl (cL 1 9223372036854775807)))])
theorem qo0 : sum_g w0 (pm_Rt pm_P 56) So0 := common_sum (-9223372036854775808) 9223372036854775807 1 1 (by decide) (by decide)
noncomputable def So1 : Sum1 := (230, [cL (-9223372036854775808) 9223372036854775807, cL 1 100000000], [], [], [], [([cL (-9223372036854775808) 9223372036854775807, cL 1 100000000], [], [], some (.inl (cL 1 9223372036854775807)))])
theorem qo1 : sum_g w0 (pm_Rt pm_P 56) So1 := common_sum (-9223372036854775808) 9223372036854775807 1 100000000 (by decide) (by decide)
end
