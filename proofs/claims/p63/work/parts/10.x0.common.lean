section
/-! by hand: the common divisor (a recursion that halves) -/
theorem cm_ifT {look : Nat → Option pm_I} {call : pm_Call} {z : Bool} {t n : Nat} {ρ : List (Nat × Value) × List Value × pm_H × Nat × Nat} {o : pm_H × Option Value} (hz : z = true) (k : pm_Go look call (t, ρ) o) : pm_Go look call (bif z then t else n, ρ) o := by subst hz; exact k
theorem cm_ifF {look : Nat → Option pm_I} {call : pm_Call} {z : Bool} {t n : Nat} {ρ : List (Nat × Value) × List Value × pm_H × Nat × Nat} {o : pm_H × Option Value} (hz : z = false) (k : pm_Go look call (n, ρ) o) : pm_Go look call (bif z then t else n, ρ) o := by subst hz; exact k
theorem cm_rem {a b : Int64} {d : Nat} {h : pm_H} {g : Int64} (hb : ¬ b = 0) (hc : pm_Rt pm_P d 230 h [.long b, .long (a - a / b * b)] h (some (.long g))) : pm_Rt pm_P (d + 1) 230 h [.long a, .long b] h (some (.long g)) := by
  refine ⟨iX9_common, aiX9_common, by show 4 ≤ 4; exact Nat.le_refl 4, ?_⟩
  have hcmp : ¬ lg_cmp b 0 = 0 := fun e => hb ((lg_cmp_eq b 0).mp e)
  show pm_Go (pm_at tX9_common) (pm_Rt pm_P d) (0, [(0, .long a), (2, .long b)], [], h, 0, 0) (h, some (.long g))
  refine Go_st (σ' := (1, [(0, .long a), (2, .long b)], [.long b], h, 0, 0)) rfl rfl ?_
  refine Go_st (σ' := (2, [(0, .long a), (2, .long b)], [.long 0, .long b], h, 0, 0)) rfl rfl ?_
  refine Go_st (σ' := (3, [(0, .long a), (2, .long b)], [.int (lg_cmp b 0)], h, 0, 0)) rfl rfl ?_
  refine Go_st (σ' := (bif decide (¬ lg_cmp b 0 = 0) then 21 else 6, [(0, .long a), (2, .long b)], [], h, 0, 0)) rfl rfl ?_
  refine cm_ifT (decide_eq_true hcmp) ?_
  refine Go_st (σ' := (22, [(0, .long a), (2, .long b)], [.long b], h, 0, 0)) rfl rfl ?_
  refine Go_st (σ' := (23, [(0, .long a), (2, .long b)], [.long a, .long b], h, 0, 0)) rfl rfl ?_
  refine Go_st (σ' := (24, [(0, .long a), (2, .long b)], [.long b, .long a, .long b], h, 0, 0)) rfl rfl ?_
  refine Go_st (σ' := (25, [(0, .long a), (2, .long b)], [.long (a - a / b * b), .long b], h, 0, 0)) rfl (by simp only [s_ldiv, if_neg hb]) ?_
  refine Go_call (h' := h) (r := some (.long g)) rfl hc ⟨Nat.le_refl 2, (fun _ hq => nomatch hq), Nat.zero_le 8, Nat.zero_le _, Nat.zero_le _⟩ ?_
  exact Go_ret rfl ⟨g, rfl, rfl⟩
theorem cm_end {a : Int64} {d : Nat} {h : pm_H} (ha : ¬ a.toInt = 0) (hm : -9223372036854775808 < a.toInt) : ∃ g : Int64, 1 ≤ g.toInt ∧ pm_Rt pm_P (d + 1) 230 h [.long a, .long 0] h (some (.long g)) := by
  have h0 : (0 : Int64).toInt = 0 := rfl
  have hcmp : lg_cmp 0 0 = 0 := (lg_cmp_eq 0 0).mpr rfl
  by_cases hs : a.toInt < 0
  · refine ⟨-a, ?_, iX9_common, aiX9_common, by show 4 ≤ 4; exact Nat.le_refl 4, ?_⟩
    · rw [Int64.toInt_neg, al_bmod (by first | decide | with_reducible assumption | omega) (by have := al_hi a; omega)]
      omega
    · have hc2 : ¬ 0 ≤ lg_cmp a 0 := fun e => by
        have := (lg_cmp_ge a 0).mp e
        rw [Int64.le_iff_toInt_le] at this
        omega
      show pm_Go (pm_at tX9_common) (pm_Rt pm_P d) (0, [(0, .long a), (2, .long 0)], [], h, 0, 0) (h, some (.long (-a)))
      refine Go_st (σ' := (1, [(0, .long a), (2, .long 0)], [.long 0], h, 0, 0)) rfl rfl ?_
      refine Go_st (σ' := (2, [(0, .long a), (2, .long 0)], [.long 0, .long 0], h, 0, 0)) rfl rfl ?_
      refine Go_st (σ' := (3, [(0, .long a), (2, .long 0)], [.int (lg_cmp 0 0)], h, 0, 0)) rfl rfl ?_
      refine Go_st (σ' := (bif decide (¬ lg_cmp 0 0 = 0) then 21 else 6, [(0, .long a), (2, .long 0)], [], h, 0, 0)) rfl rfl ?_
      refine cm_ifF (decide_eq_false (fun e => e hcmp)) ?_
      refine Go_st (σ' := (7, [(0, .long a), (2, .long 0)], [.long a], h, 0, 0)) rfl rfl ?_
      refine Go_st (σ' := (8, [(0, .long a), (2, .long 0)], [.long 0, .long a], h, 0, 0)) rfl rfl ?_
      refine Go_st (σ' := (9, [(0, .long a), (2, .long 0)], [.int (lg_cmp a 0)], h, 0, 0)) rfl rfl ?_
      refine Go_st (σ' := (bif decide (0 ≤ lg_cmp a 0) then 17 else 12, [(0, .long a), (2, .long 0)], [], h, 0, 0)) rfl rfl ?_
      refine cm_ifF (decide_eq_false hc2) ?_
      refine Go_st (σ' := (13, [(0, .long a), (2, .long 0)], [.long a], h, 0, 0)) rfl rfl ?_
      refine Go_st (σ' := (14, [(0, .long a), (2, .long 0)], [.long (-a)], h, 0, 0)) rfl rfl ?_
      refine Go_st (σ' := (28, [(0, .long a), (2, .long 0)], [.long (-a)], h, 0, 0)) rfl rfl ?_
      exact Go_ret rfl ⟨-a, rfl, rfl⟩
  · refine ⟨a, by omega, iX9_common, aiX9_common, by show 4 ≤ 4; exact Nat.le_refl 4, ?_⟩
    have hc2 : 0 ≤ lg_cmp a 0 := (lg_cmp_ge a 0).mpr (by rw [Int64.le_iff_toInt_le]; omega)
    show pm_Go (pm_at tX9_common) (pm_Rt pm_P d) (0, [(0, .long a), (2, .long 0)], [], h, 0, 0) (h, some (.long a))
    refine Go_st (σ' := (1, [(0, .long a), (2, .long 0)], [.long 0], h, 0, 0)) rfl rfl ?_
    refine Go_st (σ' := (2, [(0, .long a), (2, .long 0)], [.long 0, .long 0], h, 0, 0)) rfl rfl ?_
    refine Go_st (σ' := (3, [(0, .long a), (2, .long 0)], [.int (lg_cmp 0 0)], h, 0, 0)) rfl rfl ?_
    refine Go_st (σ' := (bif decide (¬ lg_cmp 0 0 = 0) then 21 else 6, [(0, .long a), (2, .long 0)], [], h, 0, 0)) rfl rfl ?_
    refine cm_ifF (decide_eq_false (fun e => e hcmp)) ?_
    refine Go_st (σ' := (7, [(0, .long a), (2, .long 0)], [.long a], h, 0, 0)) rfl rfl ?_
    refine Go_st (σ' := (8, [(0, .long a), (2, .long 0)], [.long 0, .long a], h, 0, 0)) rfl rfl ?_
    refine Go_st (σ' := (9, [(0, .long a), (2, .long 0)], [.int (lg_cmp a 0)], h, 0, 0)) rfl rfl ?_
    refine Go_st (σ' := (bif decide (0 ≤ lg_cmp a 0) then 17 else 12, [(0, .long a), (2, .long 0)], [], h, 0, 0)) rfl rfl ?_
    refine cm_ifT (decide_eq_true hc2) ?_
    refine Go_st (σ' := (18, [(0, .long a), (2, .long 0)], [.long a], h, 0, 0)) rfl rfl ?_
    refine Go_st (σ' := (28, [(0, .long a), (2, .long 0)], [.long a], h, 0, 0)) rfl rfl ?_
    exact Go_ret rfl ⟨a, rfl, rfl⟩
/-- the rest of longs -/
theorem cm_tmod {a b : Int64} (hb : ¬ b.toInt = 0) : (a - a / b * b).toInt = a.toInt.tmod b.toInt := by
  have l := al_lo a
  have u := al_hi a
  have d := Int.tmod_def a.toInt b.toInt
  have hq : (a / b * b).toInt = (a.toInt.tdiv b.toInt * b.toInt).bmod (2 ^ 64) := by
    rw [Int64.toInt_mul, Int64.toInt_div, Int.bmod_mul_bmod]
  have hm : a.toInt.tdiv b.toInt * b.toInt = a.toInt - a.toInt.tmod b.toInt := by rw [Int.mul_comm]; omega
  rw [Int64.toInt_sub, hq, hm, Int.sub_bmod_bmod, show a.toInt - (a.toInt - a.toInt.tmod b.toInt) = a.toInt.tmod b.toInt by omega]
  have hb1 := al_lo b
  have hb2 := al_hi b
  have hlt : a.toInt.tmod b.toInt < 9223372036854775808 ∧ -9223372036854775808 < a.toInt.tmod b.toInt := by
    by_cases hp : 0 < b.toInt
    · have t1 := Int.tmod_lt_of_pos a.toInt hp
      have t2 := Int.lt_tmod_of_pos a.toInt hp
      omega
    · have hp : 0 < -b.toInt := by omega
      have t1 := Int.tmod_lt_of_pos a.toInt hp
      have t2 := Int.lt_tmod_of_pos a.toInt hp
      rw [Int.tmod_neg] at t1 t2
      omega
  exact al_bmod (by first | decide | with_reducible assumption | omega) (by first | decide | with_reducible assumption | omega)
theorem cm_abs {x y : Int} (hy : y ≠ 0) : (x.tmod y).natAbs < y.natAbs ∧ (y.natAbs ≤ x.natAbs → 2 * (x.tmod y).natAbs < x.natAbs) := by
  have e : (x.tmod y).natAbs = x.natAbs % y.natAbs := Int.natAbs_tmod x y
  rw [e]
  have hp : 0 < y.natAbs := Int.natAbs_pos.mpr hy
  have h1 := Nat.mod_lt x.natAbs hp
  refine ⟨h1, fun hle => ?_⟩
  have h2 := Nat.div_add_mod x.natAbs y.natAbs
  have h3 : 1 ≤ x.natAbs / y.natAbs := (Nat.le_div_iff_mul_le hp).mpr (by first | decide | with_reducible assumption | omega)
  have h4 : y.natAbs * 1 ≤ y.natAbs * (x.natAbs / y.natAbs) := Nat.mul_le_mul_left _ h3
  omega
theorem cm_all : ∀ (k : Nat) (a b : Int64) (h : pm_H), ¬ b.toInt = 0 → -9223372036854775808 < b.toInt → b.toInt.natAbs < 2 ^ k → ∃ g : Int64, 1 ≤ g.toInt ∧ pm_Rt pm_P (2 * k + 2) 230 h [.long a, .long b] h (some (.long g))
  | 0, a, b, h, hb, _, hk => by
    exfalso
    have : 0 < b.toInt.natAbs := Int.natAbs_pos.mpr hb
    omega
  | k + 1, a, b, h, hb, hm, hk => by
    have hb0 : ¬ b = 0 := fun e => hb (by rw [e]; rfl)
    have r1 := cm_tmod (a := a) hb
    have s1 := cm_abs (x := a.toInt) (y := b.toInt) hb
    have bl := al_lo b
    have bh := al_hi b
    show ∃ g : Int64, 1 ≤ g.toInt ∧ pm_Rt pm_P (2 * k + 2 + 1 + 1) 230 h [.long a, .long b] h (some (.long g))
    by_cases hr : (a - a / b * b).toInt = 0
    · have hr0 : a - a / b * b = 0 := Int64.toInt_inj.mp hr
      obtain ⟨g, g1, g2⟩ := cm_end (a := b) (d := 2 * k + 2) (h := h) hb hm
      exact ⟨g, g1, cm_rem hb0 (by rw [hr0]; exact g2)⟩
    · have hr0 : ¬ a - a / b * b = 0 := fun e => hr (by rw [e]; rfl)
      have rl := al_lo (a - a / b * b)
      have rm : -9223372036854775808 < (a - a / b * b).toInt := by
        rw [r1]
        have := s1.1
        omega
      have r2 := cm_tmod (a := b) hr
      have s2 := cm_abs (x := b.toInt) (y := (a - a / b * b).toInt) hr
      have hle : (a - a / b * b).toInt.natAbs ≤ b.toInt.natAbs := by rw [r1]; omega
      have s3 := s2.2 hle
      by_cases hq : (b - b / (a - a / b * b) * (a - a / b * b)).toInt = 0
      · have hq0 : b - b / (a - a / b * b) * (a - a / b * b) = 0 := Int64.toInt_inj.mp hq
        obtain ⟨g, g1, g2⟩ := cm_end (a := a - a / b * b) (d := 2 * k + 1) (h := h) hr rm
        exact ⟨g, g1, cm_rem hb0 (cm_rem hr0 (by rw [hq0]; exact g2))⟩
      · have q1 : (b - b / (a - a / b * b) * (a - a / b * b)).toInt.natAbs < 2 ^ k := by
          rw [r2]
          have : 2 ^ (k + 1) = 2 * 2 ^ k := by rw [Nat.pow_succ, Nat.mul_comm]
          omega
        have q2 : -9223372036854775808 < (b - b / (a - a / b * b) * (a - a / b * b)).toInt := by
          rw [r2]
          have := s2.1
          omega
        obtain ⟨g, g1, g2⟩ := cm_all k (a - a / b * b) (b - b / (a - a / b * b) * (a - a / b * b)) h hq q2 q1
        exact ⟨g, g1, cm_rem hb0 (cm_rem hr0 g2)⟩
theorem common_sum (a1 a2 b1 b2 : Int) (h1 : decide (1 ≤ b1) = true) (h2 : decide (b2 < 134217728) = true) : sum_g w0 (pm_Rt pm_P 56) (230, [cL a1 a2, cL b1 b2], [], [], [], [([cL a1 a2, cL b1 b2], [], [], some (.inl (cL 1 9223372036854775807)))]) := by
  have h1 := of_decide_eq_true h1
  have h2 := of_decide_eq_true h2
  intro h as hh ha _ _
  match as, ha with
  | [.long a, .long b], ha =>
    have hb : b1 ≤ b.toInt ∧ b.toInt ≤ b2 := ha.2.1
    obtain ⟨g, g1, g2⟩ := cm_all 27 a b h (by first | decide | with_reducible assumption | omega) (by first | decide | with_reducible assumption | omega) (by have : (2 : Nat) ^ 27 = 134217728 := rfl; omega)
    exact ⟨h, some (.long g), g2, hh, fun _ _ _ => rfl, _, List.mem_singleton_self _, ha, fun q hq => absurd hq List.not_mem_nil, fun i hi => absurd hi List.not_mem_nil, g1, al_hi g⟩
end
section
/-! facts of the ring: how many places are held, how far the next free one is; cars and places of a row -/
/-- what holds a place -/
noncomputable def hv (h : pm_H) (q : Nat) : Int := match ld h 90 q with
  | some (.int x) => x.toInt
  | _ => 0
noncomputable def cntf (f : Nat → Int) (v : Nat) : Nat → Nat
  | 0 => 0
  | R + 1 => cntf f v R + (if R + 1 = v ∨ f (R + 1) = -1 then 0 else 1)
noncomputable def hfd (f : Nat → Int) (R : Nat) : Nat → Nat → Prop
  | 0, v => f v = -1
  | d + 1, v => f v = -1 ∨ hfd f R d (v % R + 1)
theorem cntf_eq {f g : Nat → Int} {v : Nat} : ∀ {R : Nat}, (∀ q, q ≤ R → q ≠ v → f q = g q) → cntf f v R = cntf g v R
  | 0, _ => rfl
  | R + 1, h => by
    unfold cntf
    rw [cntf_eq (R := R) (fun q hq hv => h q (by first | decide | with_reducible assumption | omega) hv)]
    by_cases hR : R + 1 = v
    · simp only [hR, true_or]
    · rw [h (R + 1) (Nat.le_refl _) hR]
theorem cntf_weak {f : Nat → Int} {v : Nat} : ∀ (R : Nat), cntf f v R ≤ cntf f 10 R ∨ 9 < R
  | 0 => .inl (Nat.le_refl _)
  | R + 1 => by
    by_cases h9 : 9 < R + 1
    · exact .inr h9
    · cases cntf_weak (f := f) (v := v) R with
      | inr h => omega
      | inl h =>
        left
        unfold cntf
        by_cases h1 : f (R + 1) = -1
        · simp only [h1, or_true, if_true]; exact h
        · have h10 : ¬ R + 1 = 10 := by omega
          simp only [h1, or_false, h10, if_false]
          split <;> omega
/-- one place more may be held -/
theorem cntf_inc {f g : Nat → Int} {v : Nat} : ∀ {R : Nat}, (∀ q, q ≤ R → q ≠ v → g q = f q) → R ≤ 9 → cntf g 10 R ≤ cntf f v R + (if v ≤ R then 1 else 0)
  | 0, _, _ => by unfold cntf; omega
  | R + 1, h, h9 => by
    have ih := cntf_inc (R := R) (fun q hq hv => h q (by first | decide | with_reducible assumption | omega) hv) (by first | decide | with_reducible assumption | omega)
    unfold cntf
    have h10 : ¬ R + 1 = 10 := by omega
    by_cases hR : R + 1 = v
    · rw [if_neg (show ¬ v ≤ R by omega)] at ih
      rw [if_pos (show R + 1 = v ∨ f (R + 1) = -1 from .inl hR), if_pos (show v ≤ R + 1 by omega)]
      split <;> omega
    · rw [h (R + 1) (Nat.le_refl _) hR]
      simp only [h10, false_or, hR]
      by_cases hv : v ≤ R
      · simp only [hv, if_true] at ih
        have : v ≤ R + 1 := by omega
        simp only [this, if_true]
        split <;> omega
      · simp only [hv, if_false] at ih
        have : ¬ v ≤ R + 1 := by omega
        simp only [this, if_false]
        split <;> omega
theorem cntf_zero {f : Nat → Int} {v : Nat} : ∀ {R : Nat}, (∀ q, 1 ≤ q → q ≤ R → f q = -1) → cntf f v R = 0
  | 0, _ => rfl
  | R + 1, h => by
    unfold cntf
    rw [cntf_zero (R := R) (fun q h1 h2 => h q h1 (by first | decide | with_reducible assumption | omega)), h (R + 1) (by first | decide | with_reducible assumption | omega) (Nat.le_refl _)]
    simp only [or_true, if_true]
theorem cntf_free {f : Nat → Int} : ∀ {R : Nat}, R ≤ 9 → cntf f 10 R < R → ∃ q, 1 ≤ q ∧ q ≤ R ∧ f q = -1
  | 0, _, h => absurd h (Nat.not_lt_zero _)
  | R + 1, h9, h => by
    by_cases h1 : f (R + 1) = -1
    · exact ⟨R + 1, by omega, Nat.le_refl _, h1⟩
    · have h10 : ¬ R + 1 = 10 := by omega
      unfold cntf at h
      simp only [h1, or_false, h10, if_false] at h
      obtain ⟨q, a, b, c⟩ := cntf_free (f := f) (R := R) (by first | decide | with_reducible assumption | omega) (by first | decide | with_reducible assumption | omega)
      exact ⟨q, a, by omega, c⟩
theorem hfd_up {f : Nat → Int} {R : Nat} : ∀ {d v : Nat}, hfd f R d v → hfd f R (d + 1) v
  | 0, _, h => .inl h
  | _ + 1, _, .inl h => .inl h
  | _ + 1, _, .inr h => .inr (hfd_up h)
theorem hfd_ups {f : Nat → Int} {R d v : Nat} (h : hfd f R d v) : ∀ {e : Nat}, d ≤ e → hfd f R e v
  | 0, he => by
    have : d = 0 := by omega
    subst this
    exact h
  | e + 1, he => by
    by_cases hd : d = e + 1
    · subst hd; exact h
    · exact hfd_up (hfd_ups h (e := e) (by first | decide | with_reducible assumption | omega))
theorem hfd_walk {f : Nat → Int} {R q : Nat} (hR : 0 < R) (hq : f q = -1) : ∀ (i v : Nat), 1 ≤ v → v ≤ R → (v - 1 + i) % R + 1 = q → hfd f R i v
  | 0, v, h1, h2, h3 => by
    have : v = q := by rw [← h3, Nat.add_zero, Nat.mod_eq_of_lt (by first | decide | with_reducible assumption | omega)]; omega
    subst this
    exact hq
  | i + 1, v, h1, h2, h3 => by
    right
    refine hfd_walk hR hq i (v % R + 1) (by first | decide | with_reducible assumption | omega) (by have := Nat.mod_lt v hR; omega) ?_
    rw [← h3, show v % R + 1 - 1 + i = v % R + i by omega, Nat.mod_add_mod, show v - 1 + (i + 1) = v + i by omega]
theorem hfd_free {f : Nat → Int} {R v : Nat} (h9 : R ≤ 9) (h : cntf f 10 R < R) (h1 : 1 ≤ v) (h2 : v ≤ R) : hfd f R (R - 1) v := by
  obtain ⟨q, a, b, c⟩ := cntf_free h9 h
  have hR : 0 < R := by omega
  refine hfd_ups (hfd_walk hR c ((q + R - v) % R) v h1 h2 ?_) (by have := Nat.mod_lt (q + R - v) hR; omega)
  rw [Nat.add_mod_mod, show v - 1 + (q + R - v) = (q - 1) + R by omega, Nat.add_mod_right, Nat.mod_eq_of_lt (by first | decide | with_reducible assumption | omega)]
  omega
theorem hfd_eq {f g : Nat → Int} {R : Nat} (hR : R ≤ 9) (hfg : ∀ q, q ≤ 100 → f q = g q) : ∀ (d v : Nat), v + d ≤ 50 → d ≤ 20 → hfd f R d v → hfd g R d v
  | 0, v, hv, _, h => by
    have h : f v = -1 := h
    show g v = -1
    rw [← hfg v (by first | decide | with_reducible assumption | omega)]; exact h
  | d + 1, v, hv, hd, h => by
    cases h with
    | inl h => left; rw [← hfg v (by first | decide | with_reducible assumption | omega)]; exact h
    | inr h =>
      right
      refine hfd_eq hR hfg d (v % R + 1) ?_ (by first | decide | with_reducible assumption | omega) h
      by_cases h0 : R = 0
      · subst h0; rw [Nat.mod_zero]; omega
      · have := Nat.mod_lt v (Nat.pos_of_ne_zero h0); omega
/-- what a node hangs from; how far it is to node 0 -/
noncomputable def hg (h : pm_H) (q : Nat) : Nat := match ld h 92 q with
  | some (.int x) => x.toInt.toNat
  | _ => 0
noncomputable def dep (f : Nat → Nat) : Nat → Nat → Prop
  | 0, v => v = 0
  | d + 1, v => v = 0 ∨ dep f d (f v)
theorem hg_le (h : pm_H) (q : Nat) : hg h q ≤ 2147483647 := by
  unfold hg
  split
  · rename_i x _
    have := ai_hi x
    omega
  · omega
theorem dep_eq {f g : Nat → Nat} (hf : ∀ q, f q ≤ 2147483647) (hfg : ∀ q, q ≤ 4294967295 → f q = g q) : ∀ (d v : Nat), v ≤ 2147483647 → dep f d v → dep g d v
  | 0, _, _, h => h
  | _ + 1, _, _, .inl h => .inl h
  | d + 1, v, hv', .inr h => by
    right
    rw [← hfg v (by first | decide | with_reducible assumption | omega)]
    exact dep_eq hf hfg d (f v) (hf v) h
/-- cars are at most places -/
noncomputable def CPf (r : Nat) (h : pm_H) : Prop := ∀ c p : Int32, ld h 84 (6 * r + 3) = some (.int c) → ld h 84 (6 * r) = some (.int p) → c.toInt ≤ p.toInt
/-- 0 .. 4: cars and places; from 8: held places; from 1200: the next free one; from 2200: what hangs from what -/
noncomputable def fl3 (i : Nat) (h : pm_H) : Prop := bif Nat.blt i 8 then CPf i h else (bif Nat.blt i 1200 then cntf (hv h) ((i - 8) % 11) ((i - 8) / 110) ≤ (i - 8) / 11 % 10 ∨ 9 < (i - 8) / 110 else (bif Nat.blt i 2200 then hfd (hv h) ((i - 1200) / 100 % 10) ((i - 1200) % 10) ((i - 1200) / 10 % 10) else dep (hg h) ((i - 2200) % 10) ((i - 2200) / 10 % 10)))
noncomputable def sp3 (i : Nat) : List Rng := bif Nat.blt i 8 then [(84, 6 * i + 3, 6 * i + 3), (84, 6 * i, 6 * i)] else (bif Nat.blt i 1200 then (bif Nat.beq ((i - 8) % 11) 0 then [(90, 1, 20)] else [(90, 0, (i - 8) % 11 - 1), (90, (i - 8) % 11 + 1, 20)]) else (bif Nat.blt i 2200 then [(90, 0, 100)] else [(92, 0, 4294967295)]))
theorem hv_eq {h h' : pm_H} {q : Nat} (e : ld h' 90 q = ld h 90 q) : hv h' q = hv h q := by unfold hv; rw [e]
set_option maxRecDepth 20000 in
theorem fl3_fr (i : Nat) (h h' : pm_H) (hf : ∀ a k, rg_in (sp3 i) a k = true → ld h' a k = ld h a k) (hi : fl3 i h) : fl3 i h' := by
  unfold fl3 sp3 at *
  cases h8 : Nat.blt i 8 with
  | true =>
    rw [h8] at hf hi
    dsimp only [cond_true] at hf hi ⊢
    intro c p h1 h2
    rw [hf 84 _ (rg_in_one (Nat.le_refl _) (Nat.le_refl _) List.mem_cons_self)] at h1
    rw [hf 84 _ (rg_in_one (Nat.le_refl _) (Nat.le_refl _) (List.mem_cons_of_mem _ (List.mem_singleton_self _)))] at h2
    exact hi c p h1 h2
  | false =>
    rw [h8] at hf hi
    dsimp only [cond_false] at hf hi ⊢
    cases h12 : Nat.blt i 1200 with
    | true =>
      rw [h12] at hf hi
      dsimp only [cond_true] at hf hi ⊢
      cases hi with
      | inr h9 => exact .inr h9
      | inl hi =>
        by_cases h9 : 9 < (i - 8) / 110
        · exact .inr h9
        · left
          rw [cntf_eq (g := hv h)]
          · exact hi
          · intro q hq hv'
            refine hv_eq (hf 90 q ?_)
            cases hb : Nat.beq ((i - 8) % 11) 0 with
            | true =>
              have h0 := Nat.eq_of_beq_eq_true hb
              exact rg_in_one (by first | decide | with_reducible assumption | omega) (by first | decide | with_reducible assumption | omega) (List.mem_singleton_self _)
            | false =>
              by_cases hlt : q < (i - 8) % 11
              · exact rg_in_one (Nat.zero_le _) (by first | decide | with_reducible assumption | omega) List.mem_cons_self
              · exact rg_in_one (by first | decide | with_reducible assumption | omega) (by first | decide | with_reducible assumption | omega) (List.mem_cons_of_mem _ (List.mem_singleton_self _))
    | false =>
      rw [h12] at hf hi
      dsimp only [cond_false] at hf hi ⊢
      cases h22 : Nat.blt i 2200 with
      | false =>
        rw [h22] at hf hi
        dsimp only [cond_false] at hf hi ⊢
        refine dep_eq (hg_le h) (fun q hq => ?_) _ _ (by first | decide | with_reducible assumption | omega) hi
        unfold hg
        rw [hf 92 q (rg_in_one (Nat.zero_le _) hq (List.mem_singleton_self _))]
      | true =>
      rw [h22] at hf hi
      dsimp only [cond_true] at hf hi ⊢
      exact hfd_eq (by first | decide | with_reducible assumption | omega) (fun q hq => (hv_eq (hf 90 q (rg_in_one (Nat.zero_le _) hq (List.mem_singleton_self _)))).symm) _ _ (by first | decide | with_reducible assumption | omega) (by first | decide | with_reducible assumption | omega) hi
noncomputable def fl0' (i : Nat) (h : pm_H) : Prop := bif Nat.blt i 1202 then fl0 i h else fl3 (i - 1202) h
noncomputable def sp0' (i : Nat) : List Rng := bif Nat.blt i 1202 then sp0 i else sp3 (i - 1202)
set_option maxRecDepth 20000 in
theorem fl0'_fr (i : Nat) (h h' : pm_H) (a1 : hs_g hs0 h) (a2 : hs_g hs0 h') (hf : ∀ a k, rg_in (sp0' i) a k = true → ld h' a k = ld h a k) (hi : fl0' i h) : fl0' i h' := by
  unfold fl0' sp0' at *
  cases hb : Nat.blt i 1202 with
  | true => rw [hb] at hf hi; exact fl0_fr i h h' a1 a2 hf hi
  | false => rw [hb] at hf hi; exact fl3_fr (i - 1202) h h' hf hi
noncomputable def w1 : AW := ⟨(hs0, fl0', sp0'), fl0'_fr⟩
end
section
/-! what is proved by hand, as the checks use it (written by emit.py) -/
noncomputable def So0 : Sum1 := (230, [cL (-9223372036854775808) 9223372036854775807, cL 1 1], [], [], [], [([cL (-9223372036854775808) 9223372036854775807, cL 1 1], [], [], some (.inl (cL 1 9223372036854775807)))])
theorem qo0 : sum_g w0 (pm_Rt pm_P 56) So0 := common_sum (-9223372036854775808) 9223372036854775807 1 1 (by decide) (by decide)
noncomputable def So1 : Sum1 := (230, [cL (-9223372036854775808) 9223372036854775807, cL 1 100000000], [], [], [], [([cL (-9223372036854775808) 9223372036854775807, cL 1 100000000], [], [], some (.inl (cL 1 9223372036854775807)))])
theorem qo1 : sum_g w0 (pm_Rt pm_P 56) So1 := common_sum (-9223372036854775808) 9223372036854775807 1 100000000 (by decide) (by decide)
noncomputable def So2 : Sum1 := (230, [cL (-9223372036854775808) 9223372036854775807, cL 2 40320], [], [], [], [([cL (-9223372036854775808) 9223372036854775807, cL 2 40320], [], [], some (.inl (cL 1 9223372036854775807)))])
theorem qo2 : sum_g w0 (pm_Rt pm_P 56) So2 := common_sum (-9223372036854775808) 9223372036854775807 2 40320 (by decide) (by decide)
end
section
/-! what is known of the methods, checked (written by emit.py) -/
noncomputable def S962 : Sum1 := (322, [cL (-9223372036854775808) 9223372036854775807, cL 2 40320, cI 0 1], [], [], [], [([cL (-9223372036854775808) 9223372036854775807, cL 2 40320, cI 0 1], [], [], some (.inl (cL (-9223372036854775808) 9223372036854775807)))])
theorem q962 : sum_g w0 (pm_Rt pm_P 57) S962 := meth_okB (d := 56) (cuts := []) (spl := []) (K := [0, 2, 4]) (N := 10) (sums := [So2]) aiX9_partOf (abX9_partOf w0) (by decide) (List.forall_mem_cons.mpr ⟨sum_up qo2 0, fun _ h => absurd h List.not_mem_nil⟩) (by decide +kernel)
noncomputable def S963 : Sum1 := (322, [cL (-9223372036854775808) 9223372036854775807, cL 1 1, cI 0 1], [], [], [], [([cL (-9223372036854775808) 9223372036854775807, cL 1 1, cI 0 1], [], [], some (.inl (cL (-9223372036854775808) 9223372036854775807)))])
theorem q963 : sum_g w0 (pm_Rt pm_P 57) S963 := meth_okB (d := 56) (cuts := []) (spl := []) (K := [0, 2, 4]) (N := 10) (sums := [So0]) aiX9_partOf (abX9_partOf w0) (by decide) (List.forall_mem_cons.mpr ⟨sum_up qo0 0, fun _ h => absurd h List.not_mem_nil⟩) (by decide +kernel)
noncomputable def S964 : Sum1 := (344, [cR 77, cI (-2147483648) 2147483647, cI (-2147483648) 2147483647], [], [125], [(77, 0, 0), (77, 22, 23), (77, 27, 27), (89, 0, 7), (90, 0, 9), (91, 0, 7)], [([cR 77, cI (-2147483648) 2147483647, cI (-2147483648) 2147483647], [], [], some (.inl (cI (-2147483648) 2147483647)))])
theorem q964 : sum_g w0 (pm_Rt pm_P 58) S964 := meth_okB (d := 57) (cuts := [(30, [([(0, cR 77), (1, cI 0 7), (2, cI 0 1), (3, cL (-9223372036854775808) 9223372036854775807), (5, cI 0 256)], [], [((77, 0), 0, 0)], [125], [.inl 0, .inr (.inl 5, true), .inl 0])])]) (spl := []) (K := [0, 1, 2]) (N := 44) (sums := [S112, S731, S740, S732, S744, S738, S741, S747, S745, S742, S746, S739, S616, S646, S114, S116, S963, S962]) aiX9_share (abX9_share w0) (by decide) (List.forall_mem_cons.mpr ⟨sum_up q112 56, List.forall_mem_cons.mpr ⟨sum_up q731 56, List.forall_mem_cons.mpr ⟨sum_up q740 52, List.forall_mem_cons.mpr ⟨sum_up q732 56, List.forall_mem_cons.mpr ⟨sum_up q744 49, List.forall_mem_cons.mpr ⟨sum_up q738 50, List.forall_mem_cons.mpr ⟨sum_up q741 51, List.forall_mem_cons.mpr ⟨sum_up q747 49, List.forall_mem_cons.mpr ⟨sum_up q745 52, List.forall_mem_cons.mpr ⟨sum_up q742 52, List.forall_mem_cons.mpr ⟨sum_up q746 52, List.forall_mem_cons.mpr ⟨sum_up q739 52, List.forall_mem_cons.mpr ⟨sum_up q616 56, List.forall_mem_cons.mpr ⟨sum_up q646 56, List.forall_mem_cons.mpr ⟨sum_up q114 55, List.forall_mem_cons.mpr ⟨sum_up q116 55, List.forall_mem_cons.mpr ⟨sum_up q963 0, List.forall_mem_cons.mpr ⟨sum_up q962 0, fun _ h => absurd h List.not_mem_nil⟩⟩⟩⟩⟩⟩⟩⟩⟩⟩⟩⟩⟩⟩⟩⟩⟩⟩) (by decide +kernel)
noncomputable def S965 : Sum1 := (322, [cL (-9223372036854775808) 9223372036854775807, cL 1 100000000, cI 0 1], [], [], [], [([cL (-9223372036854775808) 9223372036854775807, cL 1 100000000, cI 0 1], [], [], some (.inl (cL (-9223372036854775808) 9223372036854775807)))])
theorem q965 : sum_g w0 (pm_Rt pm_P 57) S965 := meth_okB (d := 56) (cuts := []) (spl := []) (K := [0, 2, 4]) (N := 10) (sums := [So1]) aiX9_partOf (abX9_partOf w0) (by decide) (List.forall_mem_cons.mpr ⟨sum_up qo1 0, fun _ h => absurd h List.not_mem_nil⟩) (by decide +kernel)
noncomputable def S966 : Sum1 := (226, [cR 77, cI (-2147483648) 2147483647, cI (-2147483648) 2147483647], [], [125], [(77, 0, 0), (77, 22, 23), (77, 27, 27), (89, 0, 7), (90, 0, 9), (91, 0, 7)], [([cR 77, cI (-2147483648) 2147483647, cI (-2147483648) 2147483647], [], [], some (.inl (cI (-2147483648) 2147483647)))])
theorem q966 : sum_g w0 (pm_Rt pm_P 58) S966 := meth_okB (d := 57) (cuts := []) (spl := []) (K := [0, 1, 2]) (N := 24) (sums := [S112, S821, S830, S114, S116, S965]) aiX9_chance (abX9_chance w0) (by decide) (List.forall_mem_cons.mpr ⟨sum_up q112 56, List.forall_mem_cons.mpr ⟨sum_up q821 47, List.forall_mem_cons.mpr ⟨sum_up q830 48, List.forall_mem_cons.mpr ⟨sum_up q114 55, List.forall_mem_cons.mpr ⟨sum_up q116 55, List.forall_mem_cons.mpr ⟨sum_up q965 0, fun _ h => absurd h List.not_mem_nil⟩⟩⟩⟩⟩⟩) (by decide +kernel)
noncomputable def S967 : Sum1 := (310, [cR 77, cI (-2147483648) 2147483647], [], [125], [(77, 0, 0), (77, 22, 23), (77, 27, 27), (89, 0, 7), (90, 0, 9), (91, 0, 7)], [([cR 77, cI (-2147483648) 2147483647], [], [], some (.inl (cL (-9223372036854775808) 9223372036854775807)))])
theorem q967 : sum_g w0 (pm_Rt pm_P 58) S967 := meth_okB (d := 57) (cuts := []) (spl := []) (K := [0, 1]) (N := 21) (sums := [S160, S845, S112, S830, S116, S965]) aiX9_mean (abX9_mean w0) (by decide) (List.forall_mem_cons.mpr ⟨sum_up q160 56, List.forall_mem_cons.mpr ⟨sum_up q845 47, List.forall_mem_cons.mpr ⟨sum_up q112 56, List.forall_mem_cons.mpr ⟨sum_up q830 48, List.forall_mem_cons.mpr ⟨sum_up q116 55, List.forall_mem_cons.mpr ⟨sum_up q965 0, fun _ h => absurd h List.not_mem_nil⟩⟩⟩⟩⟩⟩) (by decide +kernel)
end
section
/-! sums about numbers: rows that count, trees by the order in which nodes come, bits -/
noncomputable def TL (f : Nat → Nat) : List Nat → Prop
  | [] => True
  | v :: L => v ≠ 0 ∧ v ∉ L ∧ (f v = 0 ∨ f v ∈ L) ∧ TL f L
theorem dep_zero (f : Nat → Nat) : ∀ d, dep f d 0
  | 0 => rfl
  | _ + 1 => .inl rfl
theorem dep_up1 {f : Nat → Nat} : ∀ {d v : Nat}, dep f d v → dep f (d + 1) v
  | 0, _, h => .inl h
  | _ + 1, _, .inl h => .inl h
  | _ + 1, _, .inr h => .inr (dep_up1 h)
theorem dep_le {f : Nat → Nat} {d v : Nat} (h : dep f d v) : ∀ {e : Nat}, d ≤ e → dep f e v
  | 0, he => by
    have : d = 0 := by omega
    subst this
    exact h
  | e + 1, he => by
    by_cases hd : d = e + 1
    · subst hd; exact h
    · exact dep_up1 (dep_le h (e := e) (by first | decide | with_reducible assumption | omega))
theorem TL_dep {f : Nat → Nat} : ∀ {L : List Nat}, TL f L → ∀ v, v ∈ L → dep f L.length v
  | [], _, v, hv => absurd hv List.not_mem_nil
  | u :: L, h, v, hv => by
    have ih : ∀ v, v ∈ L → dep f L.length v := TL_dep h.2.2.2
    show dep f (L.length + 1) v
    cases List.mem_cons.mp hv with
    | inr hv => exact dep_up1 (ih v hv)
    | inl e =>
      subst e
      right
      cases h.2.2.1 with
      | inl h0 => rw [h0]; exact dep_zero f _
      | inr h1 => exact ih _ h1
theorem TL_upd {f g : Nat → Nat} : ∀ {L : List Nat}, (∀ v, v ∈ L → g v = f v) → TL f L → TL g L
  | [], _, _ => trivial
  | u :: L, hfg, h => by
    refine ⟨h.1, h.2.1, ?_, TL_upd (fun v hv => hfg v (List.mem_cons_of_mem _ hv)) h.2.2.2⟩
    rw [hfg u List.mem_cons_self]
    exact h.2.2.1
end
section
/-! by hand: how many want so, lawful rows (written by gen_t2.py) -/
/-- lawful -/
noncomputable def LWf (h : pm_H) : Prop := gn h 84 3 = gn h 84 0 ∧ ∀ p, 1 ≤ p → p ≤ gn h 84 0 → p ≤ cw (gn h 89) p (gn h 84 0)
theorem lw_loop {h : pm_H} {d : Nat} (hh : HH h) (hCP : gn h 84 3 = gn h 84 0) (k : Nat) : ∀ {p : Nat}, p + k = gn h 84 0 + 1 → (∀ q, 1 ≤ q → q < p → q ≤ cw (gn h 89) q (gn h 84 3)) → ∀ (lv : List (Nat × Value)), pm_get lv 0 = some (.ref 77) → pm_get lv 1 = some (.int (nJ p)) → Ends (pm_at tX9_isLawful) (pm_Rt pm_P (d + 2)) (15, lv, [], h, 0, 0) (fun h' r => h' = h ∧ (r = some (.int (nJ 0)) ∨ r = some (.int (nJ 1)) ∧ LWf h)) := by
  have hP : gn h 84 0 ≤ 8 := gn_hi hh rfl (by decide)
  induction k with
  | zero =>
    intro p hk hp lv L0 L1
    refine E_il rfl L1 ?_
    refine E_al rfl L0 ?_
    refine E_call rfl (sp_places hh) (chk77 hh rfl rfl (by show 1 ≤ 8; decide)) (fun h1 r1 => ?_)
    rintro ⟨e1, f1, c1⟩
    rw [e1, f1]
    show Ends _ _ (20, lv, [.int (nJ (gn h 84 0)), .int (nJ p)], h, 0, 0) _
    refine E_icT rfl (decide_eq_true ((nJ_lt (by first | decide | with_reducible assumption | omega) (by first | decide | with_reducible assumption | omega)).mpr (by first | decide | with_reducible assumption | omega))) ?_
    refine E_ci 1 rfl ci1 ?_
    exact E_rtz rfl (.inr rfl) ⟨rfl, .inr ⟨rfl, hCP, fun q h1 h2 => by have := hp q h1 (by first | decide | with_reducible assumption | omega); rw [hCP] at this; exact this⟩⟩
  | succ k ih =>
    intro p hk hp lv L0 L1
    refine E_il rfl L1 ?_
    refine E_al rfl L0 ?_
    refine E_call rfl (sp_places hh) (chk77 hh rfl rfl (by show 1 ≤ 8; decide)) (fun h1 r1 => ?_)
    rintro ⟨e1, f1, c1⟩
    rw [e1, f1]
    show Ends _ _ (20, lv, [.int (nJ (gn h 84 0)), .int (nJ p)], h, 0, 0) _
    refine E_icF rfl (decide_eq_false (fun q => absurd ((nJ_lt (by first | decide | with_reducible assumption | omega) (by first | decide | with_reducible assumption | omega)).mp q) (by first | decide | with_reducible assumption | omega))) ?_
    refine E_al rfl L0 ?_
    refine E_il rfl L1 ?_
    refine E_call rfl (sp_wanting hh (by first | decide | with_reducible assumption | omega)) (chk77 hh rfl rfl (by show 0 ≤ 8; decide)) (fun h2 r2 => ?_)
    rintro ⟨e2, f2⟩
    rw [e2, f2]
    have hw8 := cw_le (gn h 89) p (gn h 84 3)
    show Ends _ _ (28, lv, [.int (nJ (cw (gn h 89) p (gn h 84 3)))], h, 0, 0) _
    refine E_il rfl L1 ?_
    by_cases hb3 : p ≤ (cw (gn h 89) p (gn h 84 3))
    · refine E_icT rfl (decide_eq_true ((nJ_le (by first | decide | with_reducible assumption | omega) (by first | decide | with_reducible assumption | omega)).mpr hb3)) ?_
      refine E_inc rfl L1 (nJ_inc _) (fun lv4 L4_1 kp4 => ?_)
      have L4_0 := kp4 0 _ (nbz rfl) rfl L0
      refine E_goto rfl ?_
      refine ih (p := p + 1) (by first | decide | with_reducible assumption | omega) (fun q h1 h2 => ?_) lv4 L4_0 L4_1
      by_cases hq : q = p
      · subst hq; omega
      · exact hp q h1 (by first | decide | with_reducible assumption | omega)
    · refine E_icF rfl (decide_eq_false (fun q => hb3 ((nJ_le (by first | decide | with_reducible assumption | omega) (by first | decide | with_reducible assumption | omega)).mp q))) ?_
      refine E_ci 0 rfl ci0 ?_
      exact E_rtz rfl (.inl rfl) ⟨rfl, .inl rfl⟩
theorem sp_isLawful {h : pm_H} {d : Nat} (hh : HH h) : Sp (d + 3) 272 h [.ref 77] (fun h' r => h' = h ∧ (r = some (.int (nJ 0)) ∨ r = some (.int (nJ 1)) ∧ LWf h)) := by
  refine Sp_of aiX9_isLawful rfl rfl rfl ?_
  refine E_al rfl (show pm_get (lv_args 0 [.ref 77]) 0 = _ from rfl) ?_
  refine E_call rfl (sp_cars hh) (chk77 hh rfl rfl (by show 0 ≤ 8; decide)) (fun h1 r1 => ?_)
  rintro ⟨e1, f1, c1⟩
  rw [e1, f1]
  show Ends _ _ (4, (lv_args 0 [.ref 77]), [.int (nJ (gn h 84 3))], h, 0, 0) _
  refine E_al rfl (show pm_get (lv_args 0 [.ref 77]) 0 = _ from rfl) ?_
  refine E_call rfl (sp_places hh) (chk77 hh rfl rfl (by show 1 ≤ 8; decide)) (fun h2 r2 => ?_)
  rintro ⟨e2, f2, c2⟩
  rw [e2, f2]
  show Ends _ _ (8, (lv_args 0 [.ref 77]), [.int (nJ (gn h 84 0)), .int (nJ (gn h 84 3))], h, 0, 0) _
  by_cases hb3 : (gn h 84 3) = (gn h 84 0)
  · refine E_icT rfl (decide_eq_true ((nJ_eq (by first | decide | with_reducible assumption | omega) (by first | decide | with_reducible assumption | omega)).mpr hb3)) ?_
    refine E_ci 1 rfl ci1 ?_
    refine E_is rfl (fun lv4 L4_1 kp4 => ?_)
    have L4_0 := kp4 0 _ (nbz rfl) rfl (show pm_get (lv_args 0 [.ref 77]) 0 = _ from rfl)
    exact lw_loop hh (by first | decide | with_reducible assumption | omega) (gn h 84 0) (p := 1) (by first | decide | with_reducible assumption | omega) (fun q h1 h2 => by omega) lv4 L4_0 L4_1
  · refine E_icF rfl (decide_eq_false (fun q => hb3 ((nJ_eq (by first | decide | with_reducible assumption | omega) (by first | decide | with_reducible assumption | omega)).mp q))) ?_
    refine E_ci 0 rfl ci0 ?_
    exact E_rtz rfl (.inl rfl) ⟨rfl, .inl rfl⟩
end
section
/-! by hand: the search (written by gen_t3.py) -/
noncomputable def GM : List Rng := [(77, 35, 36), (92, 0, 8), (97, 0, 7), (98, 0, 8)]
noncomputable def GS (h : pm_H) (C m : Nat) (g : Nat → Nat) (L : List Nat) : Prop := HH h ∧ gn h 84 3 = C ∧ gi h 77 35 = nJ m ∧ m < 512 ∧ gn h 77 36 = pcn m C + 1 ∧ (TL (gn h 92) L ∧ L.length = pcn m C) ∧ (∀ v, v ∈ L ↔ ∃ c, c < C ∧ v = c + 1 ∧ isB m c = true) ∧ ∀ c, c < C → (gi h 97 c = nJ (g c) ∨ gi h 97 c = -1 ∧ g c = 0) ∧ g c ≤ 8
noncomputable def GQ (h0 : pm_H) (C m0 : Nat) (g0 : Nat → Nat) (h' : pm_H) (r : Option Value) : Prop := r = none ∧ fr_g GM h0 h' ∧ ∃ m g L, GS h' C m g L ∧ (∀ c, c < C → isB m0 c = true → isB m c = true) ∧ ∀ c, c < C → isB m c = false → g c + 1 + pcn m C = g0 c + pcn m0 C
theorem GS_g0 {h : pm_H} {C m k : Nat} {g : Nat → Nat} {L : List Nat} (G : GS h C m g L) (hk : k < C) : gi h 97 k ≤ 0 ↔ g k = 0 := by
  obtain ⟨h1, h2⟩ := G.2.2.2.2.2.2.2 k hk
  cases h1 with
  | inl e => rw [e]; exact nJ_le0 (by first | decide | with_reducible assumption | omega)
  | inr e => rw [e.1, e.2]; exact ⟨fun _ => rfl, fun _ => by decide⟩
theorem GS_gk {h : pm_H} {C m k : Nat} {g : Nat → Nat} {L : List Nat} (G : GS h C m g L) (hk : k < C) (h0 : ¬ g k = 0) : gi h 97 k = nJ (g k) := by
  cases (G.2.2.2.2.2.2.2 k hk).1 with
  | inl e => exact e
  | inr e => exact absurd e.2 h0
theorem GS_dec {h : pm_H} {C m k : Nat} {g : Nat → Nat} {L : List Nat} (G : GS h C m g L) (hC : C ≤ 8) (hk : k < C) (h0 : ¬ g k = 0) : GS (pt h 97 k (nJ (g k - 1))) C m (fun c => if c = k then g k - 1 else g c) L := by
  obtain ⟨hh, g1, g2, g3, g4, g5, g6, g7⟩ := G
  have hk8 := (g7 k hk).2
  refine ⟨HH_ptn hh (bd_u rfl (by first | decide | with_reducible assumption | omega)) (by first | decide | with_reducible assumption | omega) (by first | decide | with_reducible assumption | omega) (by first | decide | with_reducible assumption | omega), ?_, ?_, g3, ?_, ?_, g6, fun c hc => ?_⟩
  · rw [gn_ne (by first | exact gxx rfl | omega)]; exact g1
  · rw [gi_ne (by first | exact gxx rfl | omega)]; exact g2
  · rw [gn_ne (by first | exact gxx rfl | omega)]; exact g4
  · refine ⟨TL_upd (fun v _ => ?_) g5.1, g5.2⟩
    rw [gn_ne (by first | exact gxx rfl | omega)]
  · dsimp only
    by_cases hck : c = k
    · subst hck
      rw [if_pos rfl]
      exact ⟨.inl (gi_pt hh (bd_u rfl (by first | decide | with_reducible assumption | omega)) (ai_lo _) (ai_hi _)), by omega⟩
    · rw [if_neg hck, gi_ne (fun _ => hck)]
      exact g7 c hc
theorem GS_add {h : pm_H} {C m m2 k node : Nat} {g : Nat → Nat} {L : List Nat} (G : GS h C m g L) (hC : C ≤ 8) (hk : k < C) (hz : isB m k = false) (hm2 : m2 = m + 2 ^ k) (hn : node = 0 ∨ node ∈ L) (hn8 : node ≤ 8) :
    GS (pt (pt (pt (pt h 77 35 (nJ m2)) 92 (k + 1) (nJ node)) 98 (pcn m C + 1) (nJ (k + 1))) 77 36 (nJ (pcn m C + 1 + 1))) C m2 g ((k + 1) :: L) := by
  obtain ⟨hh, g1, g2, g3, g4, g5, g6, g7⟩ := G
  have hp := pcn_lt hz hk
  have hm2l : m2 < 512 := by rw [hm2]; exact isB_add_lt g3 (by first | decide | with_reducible assumption | omega) hz
  have hh1 : HH (pt h 77 35 (nJ m2)) := HH_pt hh rfl (ai_lo _) (ai_hi _)
  have hh2 : HH (pt (pt h 77 35 (nJ m2)) 92 (k + 1) (nJ node)) := HH_ptn hh1 (bd_u rfl (by first | decide | with_reducible assumption | omega)) (by first | decide | with_reducible assumption | omega) (by first | decide | with_reducible assumption | omega) (by first | decide | with_reducible assumption | omega)
  have hh3 : HH (pt (pt (pt h 77 35 (nJ m2)) 92 (k + 1) (nJ node)) 98 (pcn m C + 1) (nJ (k + 1))) := HH_ptn hh2 (bd_u rfl (by first | decide | with_reducible assumption | omega)) (by first | decide | with_reducible assumption | omega) (by first | decide | with_reducible assumption | omega) (by first | decide | with_reducible assumption | omega)
  have hnL : k + 1 ∉ L := fun hm => by
    obtain ⟨c, c1, c2, c3⟩ := (g6 _).mp hm
    have : c = k := by omega
    subst this
    rw [hz] at c3
    cases c3
  have hB : ∀ c, c < C → isB m2 c = (c == k || isB m c) := fun c hc => by rw [hm2]; exact isB_add g3 (by first | decide | with_reducible assumption | omega) (by first | decide | with_reducible assumption | omega) hz
  refine ⟨HH_ptn hh3 rfl (by first | decide | with_reducible assumption | omega) (by first | decide | with_reducible assumption | omega) (by first | decide | with_reducible assumption | omega), ?_, ?_, hm2l, ?_, ⟨⟨by omega, hnL, ?_, ?_⟩, ?_⟩, fun v => ⟨fun hv => ?_, fun hv => ?_⟩, fun c hc => ?_⟩
  · rw [gn_ne (by first | exact gxx rfl | omega), gn_ne (by first | exact gxx rfl | omega), gn_ne (by first | exact gxx rfl | omega), gn_ne (by first | exact gxx rfl | omega)]; exact g1
  · rw [gi_ne (by first | exact gxx rfl | omega), gi_ne (by first | exact gxx rfl | omega), gi_ne (by first | exact gxx rfl | omega)]; exact gi_pt hh rfl (ai_lo _) (ai_hi _)
  · rw [gn_ptn hh3 rfl (by first | decide | with_reducible assumption | omega) (by first | decide | with_reducible assumption | omega) (by first | decide | with_reducible assumption | omega), hm2, pcn_add g3 (by first | decide | with_reducible assumption | omega) hz (by first | decide | with_reducible assumption | omega), if_pos hk]
  · rw [gn_ne (by first | exact gxx rfl | omega), gn_ne (by first | exact gxx rfl | omega), gn_ptn hh1 (bd_u rfl (by first | decide | with_reducible assumption | omega)) (by first | decide | with_reducible assumption | omega) (by first | decide | with_reducible assumption | omega) (by first | decide | with_reducible assumption | omega)]; exact hn
  · refine TL_upd (fun v hv => ?_) g5.1
    have : v ≠ k + 1 := fun e => hnL (e ▸ hv)
    rw [gn_ne (by first | exact gxx rfl | omega), gn_ne (by first | exact gxx rfl | omega), gn_ne (fun _ => this), gn_ne (by first | exact gxx rfl | omega)]
  · rw [List.length_cons, g5.2, hm2, pcn_add g3 (by first | decide | with_reducible assumption | omega) hz (by first | decide | with_reducible assumption | omega), if_pos hk]
  · cases List.mem_cons.mp hv with
    | inl e => exact ⟨k, hk, e, by rw [hB k hk, beq_self_eq_true]; rfl⟩
    | inr hv =>
      obtain ⟨c, c1, c2, c3⟩ := (g6 v).mp hv
      exact ⟨c, c1, c2, by rw [hB c c1, c3, Bool.or_true]⟩
  · obtain ⟨c, c1, c2, c3⟩ := hv
    rw [hB c c1] at c3
    by_cases hck : c = k
    · subst hck; rw [c2]; exact List.mem_cons_self
    · rw [show (c == k) = false from beq_eq_false_iff_ne.mpr hck, Bool.false_or] at c3
      exact List.mem_cons_of_mem _ ((g6 v).mpr ⟨c, c1, c2, c3⟩)
  · rw [gi_ne (by first | exact gxx rfl | omega), gi_ne (by first | exact gxx rfl | omega), gi_ne (by first | exact gxx rfl | omega), gi_ne (by first | exact gxx rfl | omega)]
    exact g7 c hc
theorem go_loop {u C node m0 : Nat} {g0 : Nat → Nat} {h0 : pm_H} (hC : C ≤ 8) (hn8 : node ≤ 8) (ihu : ∀ u', u = u' + 1 → ∀ (h : pm_H) (nd m : Nat) (g : Nat → Nat) (L : List Nat), GS h C m g L → C ≤ u' + pcn m C → (nd = 0 ∨ nd ∈ L) → nd ≤ 8 → Sp (u' + 2) 256 h [.ref 77, .int (nJ nd)] (GQ h C m g)) (k : Nat) : ∀ {h : pm_H} {m : Nat} {g : Nat → Nat} {L : List Nat} (lv : List (Nat × Value)), k ≤ C → GS h C m g L → (node = 0 ∨ node ∈ L) → (∀ c, c < C → isB m0 c = true → isB m c = true) → fr_g GM h0 h → C ≤ u + pcn m C → (∀ c, c < C → isB m c = false → g c + pcn m C + (if k ≤ c then 1 else 0) = g0 c + pcn m0 C) → pm_get lv 0 = some (.ref 77) → pm_get lv 1 = some (.int (nJ node)) → pm_get lv 2 = some (.int (pI k)) → Ends (pm_at tX9_goesOn) (pm_Rt pm_P (u + 1)) (7, lv, [], h, 0, 0) (GQ h0 C m0 g0) := by
  induction k with
  | zero =>
    intro h m g L lv hkC G hnode hsub hfr hu hg L0 L1 L2
    refine E_il rfl L2 ?_
    refine E_ifT rfl (by decide) ?_
    exact E_ret rfl ⟨rfl, hfr, m, g, L, G, hsub, fun c hc hz => by have := hg c hc hz; rw [if_pos (Nat.zero_le _)] at this; omega⟩
  | succ k ih =>
    intro h m g L lv hkC G hnode hsub hfr hu hg L0 L1 L2
    have L2 : pm_get lv 2 = some (.int (nJ k)) := L2
    have hm := G.2.2.2.1
    refine E_il rfl L2 ?_
    refine E_ifF rfl (decide_eq_false (nJ_lt0 (by first | decide | with_reducible assumption | omega))) ?_
    refine E_al rfl L0 ?_
    refine E_gf rfl G.1 rfl (show gi h 77 35 = nJ m from G.2.2.1) ?_
    refine E_il rfl L2 ?_
    refine E_call rfl (sp_isBit (by first | decide | with_reducible assumption | omega) (by first | decide | with_reducible assumption | omega)) (chkS rfl (by show 0 ≤ 8; decide)) (fun h1 r1 => ?_)
    rintro ⟨e1, f1⟩
    rw [e1, f1]
    show Ends _ _ (19, lv, [.int (nJ (bif isB m k then 1 else 0))], h, 0, 0) _
    by_cases hb2 : isB m k = false
    · refine E_ifT rfl (by rw [hb2]; rfl) ?_
      refine E_al rfl L0 ?_
      refine E_gr rfl G.1 (q := 97) rfl ?_
      refine E_il rfl L2 ?_
      refine E_ial rfl G.1 rfl (by first | decide | with_reducible assumption | omega) (by decide) (show gi h 97 k = (gi h 97 k) from rfl) ?_
      by_cases hb3 : g k = 0
      · refine E_ifT rfl (decide_eq_true ((GS_g0 G (by first | decide | with_reducible assumption | omega)).mpr hb3)) ?_
        have hbk := hb2
        obtain ⟨m2, hm2⟩ : ∃ m2, m2 = m + 2 ^ k := ⟨_, rfl⟩
        have hm2l : m2 < 512 := by rw [hm2]; exact isB_add_lt hm (by first | decide | with_reducible assumption | omega) hbk
        have hpl := pcn_lt hbk (n := C) (by first | decide | with_reducible assumption | omega)
        have hpa : pcn m2 C = pcn m C + 1 := by rw [hm2, pcn_add hm (by first | decide | with_reducible assumption | omega) hbk (by first | decide | with_reducible assumption | omega), if_pos (by first | decide | with_reducible assumption | omega)]
        have hup : ∀ c, c < C → isB m c = true → isB m2 c = true := fun c hc h4 => by rw [hm2, isB_add hm (by first | decide | with_reducible assumption | omega) (by first | decide | with_reducible assumption | omega) hbk, h4, Bool.or_true]
        refine E_al rfl L0 ?_
        refine E_dup rfl rfl ?_
        refine E_gf rfl G.1 rfl (show gi h 77 35 = nJ m from G.2.2.1) ?_
        refine E_ci 1 rfl ci1 ?_
        refine E_il rfl L2 ?_
        refine E_bin rfl rfl ?_
        refine E_bin rfl (show nJ m ||| nJ 1 <<< (nJ k &&& 31) = nJ m2 from (by rw [hm2]; exact or_new hm (by first | decide | with_reducible assumption | omega) hbk)) ?_
        refine E_pf rfl G.1 rfl ?_
        have hh4 : HH (pt h 77 35 (nJ m2)) := HH_ptn G.1 rfl (by first | decide | with_reducible assumption | omega) (by first | decide | with_reducible assumption | omega) (by first | decide | with_reducible assumption | omega)
        refine E_al rfl L0 ?_
        refine E_gr rfl hh4 (q := 92) rfl ?_
        refine E_il rfl L2 ?_
        refine E_ci 1 rfl ci1 ?_
        refine E_bin rfl (nJ_add _ _) ?_
        refine E_il rfl L1 ?_
        refine E_ias rfl hh4 rfl (by first | decide | with_reducible assumption | omega) (by decide) ?_
        have hh5 : HH (pt (pt h 77 35 (nJ m2)) 92 ((k + 1)) (nJ node)) := HH_ptn hh4 (bd_u rfl (by first | decide | with_reducible assumption | omega)) (by first | decide | with_reducible assumption | omega) (by first | decide | with_reducible assumption | omega) (by first | decide | with_reducible assumption | omega)
        refine E_al rfl L0 ?_
        refine E_gr rfl hh5 (q := 98) rfl ?_
        refine E_al rfl L0 ?_
        refine E_gf rfl hh5 rfl (show gi (pt (pt h 77 35 (nJ m2)) 92 ((k + 1)) (nJ node)) 77 36 = nJ ((pcn m C + 1)) from (by rw [gi_ne (by first | exact gxx rfl | omega), gi_ne (by first | exact gxx rfl | omega), gi_gn G.1 rfl (by decide), G.2.2.2.2.1])) ?_
        refine E_il rfl L2 ?_
        refine E_ci 1 rfl ci1 ?_
        refine E_bin rfl (nJ_add _ _) ?_
        refine E_ias rfl hh5 rfl (by first | decide | with_reducible assumption | omega) (by decide) ?_
        have hh6 : HH (pt (pt (pt h 77 35 (nJ m2)) 92 ((k + 1)) (nJ node)) 98 ((pcn m C + 1)) (nJ ((k + 1)))) := HH_ptn hh5 (bd_u rfl (by first | decide | with_reducible assumption | omega)) (by first | decide | with_reducible assumption | omega) (by first | decide | with_reducible assumption | omega) (by first | decide | with_reducible assumption | omega)
        refine E_al rfl L0 ?_
        refine E_dup rfl rfl ?_
        refine E_gf rfl hh6 rfl (show gi (pt (pt (pt h 77 35 (nJ m2)) 92 ((k + 1)) (nJ node)) 98 ((pcn m C + 1)) (nJ ((k + 1)))) 77 36 = nJ ((pcn m C + 1)) from (by rw [gi_ne (by first | exact gxx rfl | omega), gi_ne (by first | exact gxx rfl | omega), gi_ne (by first | exact gxx rfl | omega), gi_gn G.1 rfl (by decide), G.2.2.2.2.1])) ?_
        refine E_ci 1 rfl ci1 ?_
        refine E_bin rfl (nJ_add _ _) ?_
        refine E_pf rfl hh6 rfl ?_
        have hh7 : HH (pt (pt (pt (pt h 77 35 (nJ m2)) 92 ((k + 1)) (nJ node)) 98 ((pcn m C + 1)) (nJ ((k + 1)))) 77 36 (nJ (((pcn m C + 1) + 1)))) := HH_ptn hh6 rfl (by first | decide | with_reducible assumption | omega) (by first | decide | with_reducible assumption | omega) (by first | decide | with_reducible assumption | omega)
        refine E_al rfl L0 ?_
        refine E_il rfl L2 ?_
        refine E_ci 1 rfl ci1 ?_
        refine E_bin rfl (nJ_add _ _) ?_
        have G2 := GS_add G hC (by first | decide | with_reducible assumption | omega) hbk hm2 hnode hn8
        obtain ⟨u', hu'⟩ : ∃ u', u = u' + 1 := ⟨u - 1, by omega⟩
        refine E_call rfl (Sp_le (by first | exact Nat.add_le_add_left (Nat.le_of_ble_eq_true rfl) _ | exact Nat.le_of_ble_eq_true rfl | omega) (ihu u' hu' _ _ _ _ _ G2 (by first | decide | with_reducible assumption | omega) (.inr List.mem_cons_self) (by first | decide | with_reducible assumption | omega))) (chk77 hh7 rfl rfl (by show 0 ≤ 8; decide)) (fun h9 r9 => ?_)
        rintro ⟨e9, fr9, m9, g9, L9, G9, sub9, gr9⟩
        rw [e9]
        show Ends _ _ (97, lv, [], h9, 0, 0) _
        refine E_inc rfl L2 (pI_dec _) (fun lv8 L8_2 kp8 => ?_)
        have L8_0 := kp8 0 _ (nbz rfl) rfl L0
        have L8_1 := kp8 1 _ (nbz rfl) rfl L1
        refine E_goto rfl ?_
        refine ih lv8 (by first | decide | with_reducible assumption | omega) G9 ?_ ?_ ?_ ?_ (fun c hc hz => ?_) L8_0 L8_1 L8_2
        · cases hnode with
          | inl e => exact .inl e
          | inr e =>
            obtain ⟨c, c1, c2, c3⟩ := (G.2.2.2.2.2.2.1 _).mp e
            exact .inr ((G9.2.2.2.2.2.2.1 _).mpr ⟨c, c1, c2, sub9 c c1 (hup c c1 c3)⟩)
        · exact fun c c1 c3 => sub9 c c1 (hup c c1 (hsub c c1 c3))
        · exact fr_trans (fr_ptr (l := 35) (u := 36) rfl (by first | decide | with_reducible assumption | omega) (by first | decide | with_reducible assumption | omega) (fr_ptr (l := 0) (u := 8) rfl (by first | decide | with_reducible assumption | omega) (by first | decide | with_reducible assumption | omega) (fr_ptr (l := 0) (u := 8) rfl (by first | decide | with_reducible assumption | omega) (by first | decide | with_reducible assumption | omega) (fr_ptr (l := 35) (u := 36) rfl (by first | decide | with_reducible assumption | omega) (by first | decide | with_reducible assumption | omega) hfr)))) fr9
        · have := pcn_mono (n := C) sub9
          omega
        · have h1 := gr9 c hc hz
          have h3 : isB m c = false := by
            cases h4 : isB m c with
            | false => rfl
            | true => rw [sub9 c hc (hup c hc h4)] at hz; cases hz
          have h5 : c ≠ k := fun e => by subst e; rw [sub9 c hc (by rw [hm2, isB_add hm (by first | decide | with_reducible assumption | omega) (by first | decide | with_reducible assumption | omega) hbk, beq_self_eq_true]; rfl)] at hz; cases hz
          have h2 := hg c hc h3
          split at h2 <;> split <;> omega
      · refine E_ifF rfl (decide_eq_false (fun q => hb3 ((GS_g0 G (by first | decide | with_reducible assumption | omega)).mp q))) ?_
        have hg0 := hb3
        have hgk8 := (G.2.2.2.2.2.2.2 k (by first | decide | with_reducible assumption | omega)).2
        refine E_al rfl L0 ?_
        refine E_gr rfl G.1 (q := 97) rfl ?_
        refine E_il rfl L2 ?_
        refine E_dup2 rfl rfl rfl ?_
        refine E_ial rfl G.1 rfl (by first | decide | with_reducible assumption | omega) (by decide) (show gi h 97 k = nJ ((g k)) from (GS_gk G (by first | decide | with_reducible assumption | omega) hg0)) ?_
        refine E_ci 1 rfl ci1 ?_
        refine E_bin rfl (nJ_sub (by first | decide | with_reducible assumption | omega)) ?_
        refine E_ias rfl G.1 rfl (by first | decide | with_reducible assumption | omega) (by decide) ?_
        have hh9 : HH (pt h 97 k (nJ (((g k) - 1)))) := HH_ptn G.1 (bd_u rfl (by first | decide | with_reducible assumption | omega)) (by first | decide | with_reducible assumption | omega) (by first | decide | with_reducible assumption | omega) (by first | decide | with_reducible assumption | omega)
        refine E_goto rfl ?_
        refine E_inc rfl L2 (pI_dec _) (fun lv10 L10_2 kp10 => ?_)
        have L10_0 := kp10 0 _ (nbz rfl) rfl L0
        have L10_1 := kp10 1 _ (nbz rfl) rfl L1
        refine E_goto rfl ?_
        refine ih lv10 (by first | decide | with_reducible assumption | omega) (GS_dec G hC (by first | decide | with_reducible assumption | omega) hg0) hnode hsub (fr_ptr (l := 0) (u := 7) rfl (by first | decide | with_reducible assumption | omega) (by first | decide | with_reducible assumption | omega) hfr) hu (fun c hc hz => ?_) L10_0 L10_1 L10_2
        have h1 := hg c hc hz
        by_cases h2 : c = k
        · subst h2; rw [if_pos rfl]; split at h1 <;> split <;> omega
        · rw [if_neg h2]; split at h1 <;> split <;> omega
    · refine E_ifF rfl (by rw [Bool.not_eq_false] at hb2; rw [hb2]; rfl) ?_
      refine E_goto rfl ?_
      refine E_inc rfl L2 (pI_dec _) (fun lv11 L11_2 kp11 => ?_)
      have L11_0 := kp11 0 _ (nbz rfl) rfl L0
      have L11_1 := kp11 1 _ (nbz rfl) rfl L1
      refine E_goto rfl ?_
      refine ih lv11 (by first | decide | with_reducible assumption | omega) G hnode hsub hfr hu (fun c hc hz => ?_) L11_0 L11_1 L11_2
      have h1 := hg c hc hz
      have h2 : c ≠ k := fun e => by subst e; exact absurd hz hb2
      split at h1 <;> split <;> omega
theorem go_one {u C : Nat} (hC : C ≤ 8) (ihu : ∀ u', u = u' + 1 → ∀ (h : pm_H) (nd m : Nat) (g : Nat → Nat) (L : List Nat), GS h C m g L → C ≤ u' + pcn m C → (nd = 0 ∨ nd ∈ L) → nd ≤ 8 → Sp (u' + 2) 256 h [.ref 77, .int (nJ nd)] (GQ h C m g)) (h : pm_H) (node m : Nat) (g : Nat → Nat) (L : List Nat) (G : GS h C m g L) (hu : C ≤ u + pcn m C) (hnode : node = 0 ∨ node ∈ L) (hn8 : node ≤ 8) : Sp (u + 2) 256 h [.ref 77, .int (nJ node)] (GQ h C m g) := by
  have hCe := G.2.1
  refine Sp_of aiX9_goesOn rfl rfl rfl ?_
  refine E_al rfl (show pm_get (lv_args 0 [.ref 77, .int (nJ node)]) 0 = _ from rfl) ?_
  refine E_call rfl (sp_cars G.1) (chk77 G.1 rfl rfl (by show 0 ≤ 8; decide)) (fun h1 r1 => ?_)
  rintro ⟨e1, f1, c1⟩
  rw [e1, f1]
  show Ends _ _ (4, (lv_args 0 [.ref 77, .int (nJ node)]), [.int (nJ (gn h 84 3))], h, 0, 0) _
  refine E_ci 1 rfl ci1 ?_
  refine E_bin rfl (pI_of _) ?_
  refine E_is rfl (fun lv2 L2_2 kp2 => ?_)
  have L2_0 := kp2 0 _ (nbz rfl) rfl (show pm_get (lv_args 0 [.ref 77, .int (nJ node)]) 0 = _ from rfl)
  have L2_1 := kp2 1 _ (nbz rfl) rfl (show pm_get (lv_args 0 [.ref 77, .int (nJ node)]) 1 = _ from rfl)
  exact go_loop hC hn8 ihu (gn h 84 3) lv2 (by first | decide | with_reducible assumption | omega) G hnode (fun _ _ a => a) (fr_rf _ _) hu (fun c hc _ => by rw [if_neg (by first | decide | with_reducible assumption | omega)]; omega) L2_0 L2_1 L2_2
theorem sp_goesOn {C : Nat} (hC : C ≤ 8) : ∀ (u : Nat) (h : pm_H) (node m : Nat) (g : Nat → Nat) (L : List Nat), GS h C m g L → C ≤ u + pcn m C → (node = 0 ∨ node ∈ L) → node ≤ 8 → Sp (u + 2) 256 h [.ref 77, .int (nJ node)] (GQ h C m g)
  | 0 => go_one hC (fun u' hu' => by omega)
  | u + 1 => go_one hC (fun u' hu' => by
      have : u' = u := by omega
      subst this
      exact sp_goesOn hC u')
theorem hg_gn (h : pm_H) : hg h = gn h 92 := by
  funext q
  unfold hg gn gi
  split <;> rename_i e
  · rw [e]
  · split
    · rename_i x e2; exact absurd e2 (e x)
    · rfl
theorem GS_dep {h : pm_H} {C m : Nat} {g : Nat → Nat} {L : List Nat} (G : GS h C m g L) (hC : C ≤ 8) (hf : ∀ c, c < C → isB m c = true) : ∀ v, 1 ≤ v → v ≤ C → dep (hg h) 8 v := by
  intro v h1 h2
  rw [hg_gn]
  have hp := pcn_le m C
  refine dep_le (TL_dep G.2.2.2.2.2.1.1 v ((G.2.2.2.2.2.2.1 v).mpr ⟨v - 1, by omega, by omega, hf _ (by first | decide | with_reducible assumption | omega)⟩)) (by rw [G.2.2.2.2.2.1.2]; omega)
/-- lawful: all come -/
theorem GQ_all {h0 h1 h' : pm_H} {C : Nat} {r : Option Value} (hL : LWf h0) (hC : gn h0 84 3 = C) (hQ : GQ h1 C 0 (fun c => gn h0 89 c - 1) h' r) (hC8 : C ≤ 8) : ∀ v, 1 ≤ v → v ≤ C → dep (hg h') 8 v := by
  obtain ⟨-, -, m, g, L, G, -, hg⟩ := hQ
  refine GS_dep G hC8 (pcn_full ?_)
  by_cases hlt : pcn m C < C
  · exfalso
    have hP : gn h0 84 0 = C := by rw [← hL.1]; exact hC
    have h1 := hL.2 (pcn m C + 1) (by first | decide | with_reducible assumption | omega) (by first | decide | with_reducible assumption | omega)
    rw [hP] at h1
    have h2 : cw (gn h0 89) (pcn m C + 1) C ≤ pcn m C := cw_pcn (fun c hc hle => by
      cases hz : isB m c with
      | true => rfl
      | false =>
        have this : g c + 1 + pcn m C = gn h0 89 c - 1 + pcn 0 C := hg c hc hz
        rw [pcn_zero] at this
        omega)
    omega
  · omega
theorem se_loop {h0 : pm_H} {d : Nat} (hh0 : HH h0) (hL : LWf h0) (j : Nat) : ∀ {h : pm_H} {c : Nat} (lv : List (Nat × Value)), c + j = gn h0 84 3 → HH h → fr_g GM h0 h → (∀ c', c' < c → gi h 97 c' = pI (gn h0 89 c')) → pm_get lv 0 = some (.ref 77) → pm_get lv 1 = some (.int (nJ c)) → Ends (pm_at tX9_searches) (pm_Rt pm_P (d + 10)) (2, lv, [], h, 0, 0) (fun h' r => r = none ∧ HH h' ∧ fr_g GM h0 h' ∧ ∀ v, 1 ≤ v → v ≤ gn h0 84 3 → dep (hg h') 8 v) := by
  have hC : gn h0 84 3 ≤ 8 := gn_hi hh0 rfl (by decide)
  induction j with
  | zero =>
    intro h c lv hj hh hfr hg L0 L1
    have hce : gn h 84 3 = gn h0 84 3 := fr_gn hfr (rg_no rfl _)
    refine E_il rfl L1 ?_
    refine E_al rfl L0 ?_
    refine E_call rfl (sp_cars hh) (chk77 hh rfl rfl (by show 1 ≤ 8; decide)) (fun h1 r1 => ?_)
    rintro ⟨e1, f1, c1⟩
    rw [e1, f1]
    show Ends _ _ (7, lv, [.int (nJ (gn h 84 3)), .int (nJ c)], h, 0, 0) _
    refine E_icT rfl (decide_eq_true ((nJ_le (by first | decide | with_reducible assumption | omega) (by first | decide | with_reducible assumption | omega)).mpr (by first | decide | with_reducible assumption | omega))) ?_
    refine E_al rfl L0 ?_
    refine E_ci 0 rfl ci0 ?_
    refine E_pf rfl hh rfl ?_
    have hh2 : HH (pt h 77 35 (nJ 0)) := HH_ptn hh rfl (by first | decide | with_reducible assumption | omega) (by first | decide | with_reducible assumption | omega) (by first | decide | with_reducible assumption | omega)
    refine E_al rfl L0 ?_
    refine E_ci 1 rfl ci1 ?_
    refine E_pf rfl hh2 rfl ?_
    have hh3 : HH (pt (pt h 77 35 (nJ 0)) 77 36 (nJ 1)) := HH_ptn hh2 rfl (by first | decide | with_reducible assumption | omega) (by first | decide | with_reducible assumption | omega) (by first | decide | with_reducible assumption | omega)
    refine E_al rfl L0 ?_
    refine E_gr rfl hh3 (q := 98) rfl ?_
    refine E_ci 0 rfl ci0 ?_
    refine E_ci 0 rfl ci0 ?_
    refine E_ias rfl hh3 rfl (by first | decide | with_reducible assumption | omega) (by decide) ?_
    have hh4 : HH (pt (pt (pt h 77 35 (nJ 0)) 77 36 (nJ 1)) 98 0 (nJ 0)) := HH_ptn hh3 (bd_u rfl (by first | decide | with_reducible assumption | omega)) (by first | decide | with_reducible assumption | omega) (by first | decide | with_reducible assumption | omega) (by first | decide | with_reducible assumption | omega)
    refine E_al rfl L0 ?_
    refine E_ci 0 rfl ci0 ?_
    have G : GS (pt (pt (pt h 77 35 (nJ 0)) 77 36 (nJ 1)) 98 0 (nJ 0)) (gn h0 84 3) 0 (fun c => gn h0 89 c - 1) [] := by
      refine ⟨hh4, ?_, ?_, by omega, ?_, ⟨trivial, by rw [pcn_zero]; rfl⟩, fun v => ⟨fun hv => absurd hv List.not_mem_nil, fun ⟨c, _, _, c3⟩ => ?_⟩, fun c hc => ?_⟩
      · rw [gn_ne (by first | exact gxx rfl | omega), gn_ne (by first | exact gxx rfl | omega), gn_ne (by first | exact gxx rfl | omega)]; exact hce
      · rw [gi_ne (by first | exact gxx rfl | omega), gi_ne (by first | exact gxx rfl | omega)]; exact gi_pt hh rfl (ai_lo _) (ai_hi _)
      · rw [gn_ne (by first | exact gxx rfl | omega), gn_ptn hh2 rfl (by first | decide | with_reducible assumption | omega) (by first | decide | with_reducible assumption | omega) (by first | decide | with_reducible assumption | omega), pcn_zero]
      · rw [isB_zero] at c3; cases c3
      · rw [gi_ne (by first | exact gxx rfl | omega), gi_ne (by first | exact gxx rfl | omega), gi_ne (by first | exact gxx rfl | omega), hg c (by first | decide | with_reducible assumption | omega)]
        have hb8 : gn h0 89 c ≤ 8 := gn_hi hh0 (bd_u rfl (by first | decide | with_reducible assumption | omega)) (by decide)
        show (pI (gn h0 89 c) = nJ (gn h0 89 c - 1) ∨ pI (gn h0 89 c) = -1 ∧ gn h0 89 c - 1 = 0) ∧ gn h0 89 c - 1 ≤ 8
        generalize gn h0 89 c = x at hb8 ⊢
        cases x with
        | zero => exact ⟨.inr ⟨rfl, rfl⟩, by omega⟩
        | succ k => exact ⟨.inl rfl, by omega⟩
    refine E_call rfl (Sp_le (by first | exact Nat.add_le_add_left (Nat.le_of_ble_eq_true rfl) _ | exact Nat.le_of_ble_eq_true rfl | omega) (sp_goesOn (by first | decide | with_reducible assumption | omega) 8 _ 0 0 _ [] G (by first | decide | with_reducible assumption | omega) (.inl rfl) (by first | decide | with_reducible assumption | omega))) (chk77 hh4 rfl rfl (by show 0 ≤ 8; decide)) (fun h9 r9 => ?_)
    intro hQ
    obtain ⟨m9, g9, L9, G9, -, -⟩ := hQ.2.2
    rw [hQ.1]
    show Ends _ _ (52, lv, [], h9, 0, 0) _
    exact E_ret rfl ⟨rfl, G9.1, fr_trans (fr_ptr (l := 0) (u := 8) rfl (by first | decide | with_reducible assumption | omega) (by first | decide | with_reducible assumption | omega) (fr_ptr (l := 35) (u := 36) rfl (by first | decide | with_reducible assumption | omega) (by first | decide | with_reducible assumption | omega) (fr_ptr (l := 35) (u := 36) rfl (by first | decide | with_reducible assumption | omega) (by first | decide | with_reducible assumption | omega) hfr))) hQ.2.1, GQ_all hL rfl hQ hC⟩
  | succ j ih =>
    intro h c lv hj hh hfr hg L0 L1
    have hce : gn h 84 3 = gn h0 84 3 := fr_gn hfr (rg_no rfl _)
    refine E_il rfl L1 ?_
    refine E_al rfl L0 ?_
    refine E_call rfl (sp_cars hh) (chk77 hh rfl rfl (by show 1 ≤ 8; decide)) (fun h1 r1 => ?_)
    rintro ⟨e1, f1, c1⟩
    rw [e1, f1]
    show Ends _ _ (7, lv, [.int (nJ (gn h 84 3)), .int (nJ c)], h, 0, 0) _
    refine E_icF rfl (decide_eq_false (fun q => absurd ((nJ_le (by first | decide | with_reducible assumption | omega) (by first | decide | with_reducible assumption | omega)).mp q) (by first | decide | with_reducible assumption | omega))) ?_
    refine E_al rfl L0 ?_
    refine E_gr rfl hh (q := 97) rfl ?_
    refine E_il rfl L1 ?_
    refine E_al rfl L0 ?_
    refine E_gr rfl hh (q := 89) rfl ?_
    refine E_il rfl L1 ?_
    refine E_ial rfl hh rfl (by first | decide | with_reducible assumption | omega) (by decide) (show gi h 89 c = nJ ((gn h0 89 c)) from (by rw [fr_gi hfr (rg_no rfl _)]; exact gi_gn hh0 (bd_u rfl (by first | decide | with_reducible assumption | omega)) (by decide))) ?_
    refine E_ci 1 rfl ci1 ?_
    refine E_bin rfl (pI_of _) ?_
    refine E_ias rfl hh rfl (by first | decide | with_reducible assumption | omega) (by decide) ?_
    have hh2 : HH (pt h 97 c (pI (gn h0 89 c))) := HH_pt hh (bd_u rfl (by first | decide | with_reducible assumption | omega)) (ai_lo _) (ai_hi _)
    refine E_inc rfl L1 (nJ_inc _) (fun lv3 L3_1 kp3 => ?_)
    have L3_0 := kp3 0 _ (nbz rfl) rfl L0
    refine E_goto rfl ?_
    refine ih (c := c + 1) lv3 (by first | decide | with_reducible assumption | omega) hh2 (fr_ptr (l := 0) (u := 7) rfl (by first | decide | with_reducible assumption | omega) (by first | decide | with_reducible assumption | omega) hfr) (fun c' hc' => ?_) L3_0 L3_1
    by_cases hcc : c' = c
    · subst hcc
      rw [gi_pt hh (bd_u rfl (by first | decide | with_reducible assumption | omega)) (ai_lo _) (ai_hi _)]
    · rw [gi_ne (fun _ => hcc)]; exact hg c' (by first | decide | with_reducible assumption | omega)
theorem sp_searches {h0 : pm_H} {d : Nat} (hh : HH h0) (hL : LWf h0) : Sp (d + 11) 342 h0 [.ref 77] (fun h' r => r = none ∧ HH h' ∧ fr_g GM h0 h' ∧ ∀ v, 1 ≤ v → v ≤ gn h0 84 3 → dep (hg h') 8 v) := by
  refine Sp_of aiX9_searches rfl rfl rfl ?_
  refine E_ci 0 rfl ci0 ?_
  refine E_is rfl (fun lv1 L1_1 kp1 => ?_)
  have L1_0 := kp1 0 _ (nbz rfl) rfl (show pm_get (lv_args 0 [.ref 77]) 0 = _ from rfl)
  exact se_loop hh hL (gn h0 84 3) (c := 0) lv1 (by first | decide | with_reducible assumption | omega) hh (fr_rf _ _) (fun c' hc' => absurd hc' (Nat.not_lt_zero _)) L1_0 L1_1
noncomputable def CM : List Rng := [(77, 35, 35), (97, 0, 7)]
noncomputable def CQ (h0 : pm_H) (P m0 : Nat) (h' : pm_H) (r : Option Value) : Prop := r = none ∧ HH h' ∧ fr_g CM h0 h' ∧ ∃ m, gi h' 77 35 = nJ m ∧ m < 512 ∧ ∀ c, c < P → isB m0 c = true → isB m c = true
theorem ct_loop {u P node m0 : Nat} {h0 : pm_H} (hP : P ≤ 8) (hn8 : node ≤ 8) (ihu : ∀ u', u = u' + 1 → ∀ (h : pm_H) (nd m : Nat), HH h → gn h 84 0 = P → gi h 77 35 = nJ m → m < 512 → P ≤ u' + pcn m P → nd ≤ 8 → Sp (u' + 2) 234 h [.ref 77, .int (nJ nd)] (CQ h P m)) (k : Nat) : ∀ {h : pm_H} {m : Nat} (lv : List (Nat × Value)), k ≤ P → HH h → gn h 84 0 = P → gi h 77 35 = nJ m → m < 512 → (∀ c, c < P → isB m0 c = true → isB m c = true) → fr_g CM h0 h → P ≤ u + pcn m P → pm_get lv 0 = some (.ref 77) → pm_get lv 1 = some (.int (nJ node)) → pm_get lv 2 = some (.int (pI k)) → Ends (pm_at tX9_counts0) (pm_Rt pm_P (u + 1)) (7, lv, [], h, 0, 0) (CQ h0 P m0) := by
  induction k with
  | zero =>
    intro h m lv hkC hh hP0 hm0 hm hsub hfr hu L0 L1 L2
    refine E_il rfl L2 ?_
    refine E_ifT rfl (by decide) ?_
    exact E_ret rfl ⟨rfl, hh, hfr, m, hm0, hm, hsub⟩
  | succ k ih =>
    intro h m lv hkC hh hP0 hm0 hm hsub hfr hu L0 L1 L2
    have L2 : pm_get lv 2 = some (.int (nJ k)) := L2
    refine E_il rfl L2 ?_
    refine E_ifF rfl (decide_eq_false (nJ_lt0 (by first | decide | with_reducible assumption | omega))) ?_
    refine E_al rfl L0 ?_
    refine E_gf rfl hh rfl (show gi h 77 35 = nJ m from hm0) ?_
    refine E_il rfl L2 ?_
    refine E_call rfl (sp_isBit (by first | decide | with_reducible assumption | omega) (by first | decide | with_reducible assumption | omega)) (chkS rfl (by show 0 ≤ 8; decide)) (fun h1 r1 => ?_)
    rintro ⟨e1, f1⟩
    rw [e1, f1]
    show Ends _ _ (19, lv, [.int (nJ (bif isB m k then 1 else 0))], h, 0, 0) _
    by_cases hb2 : isB m k = false
    · refine E_ifT rfl (by rw [hb2]; rfl) ?_
      refine E_al rfl L0 ?_
      refine E_gr rfl hh (q := 92) rfl ?_
      refine E_il rfl L2 ?_
      refine E_ci 1 rfl ci1 ?_
      refine E_bin rfl (nJ_add _ _) ?_
      have b3 : gn h 92 ((k + 1)) ≤ 8 := gn_hi hh (bd_u rfl (by first | decide | with_reducible assumption | omega)) (by decide)
      refine E_ial rfl hh rfl (by first | decide | with_reducible assumption | omega) (by decide) (gi_gn hh (bd_u rfl (by first | decide | with_reducible assumption | omega)) (by decide)) ?_
      refine E_il rfl L1 ?_
      by_cases hb4 : (gn h 92 ((k + 1))) = node
      · refine E_icT rfl (decide_eq_true ((nJ_eq (by first | decide | with_reducible assumption | omega) (by first | decide | with_reducible assumption | omega)).mpr hb4)) ?_
        obtain ⟨m2, hm2⟩ : ∃ m2, m2 = m + 2 ^ k := ⟨_, rfl⟩
        have hm2l : m2 < 512 := by rw [hm2]; exact isB_add_lt hm (by first | decide | with_reducible assumption | omega) hb2
        have hpl := pcn_lt hb2 (n := P) (by first | decide | with_reducible assumption | omega)
        have hpa : pcn m2 P = pcn m P + 1 := by rw [hm2, pcn_add hm (by first | decide | with_reducible assumption | omega) hb2 (by first | decide | with_reducible assumption | omega), if_pos (by first | decide | with_reducible assumption | omega)]
        have hup : ∀ c, c < P → isB m c = true → isB m2 c = true := fun c hc h4 => by rw [hm2, isB_add hm (by first | decide | with_reducible assumption | omega) (by first | decide | with_reducible assumption | omega) hb2, h4, Bool.or_true]
        refine E_al rfl L0 ?_
        refine E_dup rfl rfl ?_
        refine E_gf rfl hh rfl (show gi h 77 35 = nJ m from hm0) ?_
        refine E_ci 1 rfl ci1 ?_
        refine E_il rfl L2 ?_
        refine E_bin rfl rfl ?_
        refine E_bin rfl (show nJ m ||| nJ 1 <<< (nJ k &&& 31) = nJ m2 from (by rw [hm2]; exact or_new hm (by first | decide | with_reducible assumption | omega) hb2)) ?_
        refine E_pf rfl hh rfl ?_
        have hh5 : HH (pt h 77 35 (nJ m2)) := HH_ptn hh rfl (by first | decide | with_reducible assumption | omega) (by first | decide | with_reducible assumption | omega) (by first | decide | with_reducible assumption | omega)
        refine E_al rfl L0 ?_
        refine E_il rfl L2 ?_
        refine E_ci 1 rfl ci1 ?_
        refine E_bin rfl (nJ_add _ _) ?_
        obtain ⟨u', hu'⟩ : ∃ u', u = u' + 1 := ⟨u - 1, by omega⟩
        refine E_call rfl (Sp_le (by first | exact Nat.add_le_add_left (Nat.le_of_ble_eq_true rfl) _ | exact Nat.le_of_ble_eq_true rfl | omega) (ihu u' hu' _ _ m2 hh5 (by rw [gn_ne (by first | exact gxx rfl | omega)]; exact hP0) (gi_pt hh rfl (ai_lo _) (ai_hi _)) hm2l (by first | decide | with_reducible assumption | omega) (by first | decide | with_reducible assumption | omega))) (chk77 hh5 rfl rfl (by show 0 ≤ 8; decide)) (fun h9 r9 => ?_)
        rintro ⟨e9, hh9, fr9, m9, hm9, hl9, sub9⟩
        rw [e9]
        show Ends _ _ (69, lv, [], h9, 0, 0) _
        refine E_inc rfl L2 (pI_dec _) (fun lv6 L6_2 kp6 => ?_)
        have L6_0 := kp6 0 _ (nbz rfl) rfl L0
        have L6_1 := kp6 1 _ (nbz rfl) rfl L1
        refine E_goto rfl ?_
        refine ih lv6 (by first | decide | with_reducible assumption | omega) hh9 (by rw [fr_gn fr9 (rg_no rfl _), gn_ne (by first | exact gxx rfl | omega)]; exact hP0) hm9 hl9 (fun c hc a => sub9 c hc (hup c hc (hsub c hc a))) (fr_trans (fr_ptr (l := 35) (u := 35) rfl (by first | decide | with_reducible assumption | omega) (by first | decide | with_reducible assumption | omega) hfr) fr9) ?_ L6_0 L6_1 L6_2
        have := pcn_mono (n := P) sub9
        omega
      · refine E_icF rfl (decide_eq_false (fun q => hb4 ((nJ_eq (by first | decide | with_reducible assumption | omega) (by first | decide | with_reducible assumption | omega)).mp q))) ?_
        refine E_al rfl L0 ?_
        refine E_gr rfl hh (q := 97) rfl ?_
        refine E_il rfl L2 ?_
        refine E_dup2 rfl rfl rfl ?_
        refine E_ial rfl hh rfl (by first | decide | with_reducible assumption | omega) (by decide) (show gi h 97 k = (gi h 97 k) from rfl) ?_
        refine E_ci 1 rfl ci1 ?_
        refine E_bin rfl rfl ?_
        refine E_ias rfl hh rfl (by first | decide | with_reducible assumption | omega) (by decide) ?_
        have hh7 : HH (pt h 97 k (gi h 97 k + nJ 1)) := HH_pt hh (bd_u rfl (by first | decide | with_reducible assumption | omega)) (ai_lo _) (ai_hi _)
        refine E_goto rfl ?_
        refine E_inc rfl L2 (pI_dec _) (fun lv8 L8_2 kp8 => ?_)
        have L8_0 := kp8 0 _ (nbz rfl) rfl L0
        have L8_1 := kp8 1 _ (nbz rfl) rfl L1
        refine E_goto rfl ?_
        exact ih lv8 (by first | decide | with_reducible assumption | omega) hh7 (by rw [gn_ne (by first | exact gxx rfl | omega)]; exact hP0) (by rw [gi_ne (by first | exact gxx rfl | omega)]; exact hm0) hm hsub (fr_ptr (l := 0) (u := 7) rfl (by first | decide | with_reducible assumption | omega) (by first | decide | with_reducible assumption | omega) hfr) hu L8_0 L8_1 L8_2
    · refine E_ifF rfl (by rw [Bool.not_eq_false] at hb2; rw [hb2]; rfl) ?_
      refine E_goto rfl ?_
      refine E_inc rfl L2 (pI_dec _) (fun lv9 L9_2 kp9 => ?_)
      have L9_0 := kp9 0 _ (nbz rfl) rfl L0
      have L9_1 := kp9 1 _ (nbz rfl) rfl L1
      refine E_goto rfl ?_
      exact ih lv9 (by first | decide | with_reducible assumption | omega) hh hP0 hm0 hm hsub hfr hu L9_0 L9_1 L9_2
theorem ct_one {u P : Nat} (hP : P ≤ 8) (ihu : ∀ u', u = u' + 1 → ∀ (h : pm_H) (nd m : Nat), HH h → gn h 84 0 = P → gi h 77 35 = nJ m → m < 512 → P ≤ u' + pcn m P → nd ≤ 8 → Sp (u' + 2) 234 h [.ref 77, .int (nJ nd)] (CQ h P m)) (h : pm_H) (node m : Nat) (hh : HH h) (hP0 : gn h 84 0 = P) (hm0 : gi h 77 35 = nJ m) (hm : m < 512) (hu : P ≤ u + pcn m P) (hn8 : node ≤ 8) : Sp (u + 2) 234 h [.ref 77, .int (nJ node)] (CQ h P m) := by
  refine Sp_of aiX9_counts0 rfl rfl rfl ?_
  refine E_al rfl (show pm_get (lv_args 0 [.ref 77, .int (nJ node)]) 0 = _ from rfl) ?_
  refine E_call rfl (sp_places hh) (chk77 hh rfl rfl (by show 0 ≤ 8; decide)) (fun h1 r1 => ?_)
  rintro ⟨e1, f1, c1⟩
  rw [e1, f1]
  show Ends _ _ (4, (lv_args 0 [.ref 77, .int (nJ node)]), [.int (nJ (gn h 84 0))], h, 0, 0) _
  refine E_ci 1 rfl ci1 ?_
  refine E_bin rfl (pI_of _) ?_
  refine E_is rfl (fun lv2 L2_2 kp2 => ?_)
  have L2_0 := kp2 0 _ (nbz rfl) rfl (show pm_get (lv_args 0 [.ref 77, .int (nJ node)]) 0 = _ from rfl)
  have L2_1 := kp2 1 _ (nbz rfl) rfl (show pm_get (lv_args 0 [.ref 77, .int (nJ node)]) 1 = _ from rfl)
  exact ct_loop hP hn8 ihu (gn h 84 0) lv2 (by first | decide | with_reducible assumption | omega) hh hP0 hm0 hm (fun _ _ a => a) (fr_rf _ _) hu L2_0 L2_1 L2_2
theorem sp_counts0 {P : Nat} (hP : P ≤ 8) : ∀ (u : Nat) (h : pm_H) (node m : Nat), HH h → gn h 84 0 = P → gi h 77 35 = nJ m → m < 512 → P ≤ u + pcn m P → node ≤ 8 → Sp (u + 2) 234 h [.ref 77, .int (nJ node)] (CQ h P m)
  | 0 => ct_one hP (fun u' hu' => by omega)
  | u + 1 => ct_one hP (fun u' hu' => by
      have : u' = u := by omega
      subst this
      exact sp_counts0 hP u')
end
section
/-! by hand: the tree by wishes (written by gen_t4.py) -/
/-- a row's elements from the k-th down to the first -/
noncomputable def rl (g : Nat → Nat) : Nat → List Nat
  | 0 => []
  | k + 1 => g (k + 1) :: rl g k
theorem rl_eq {g g' : Nat → Nat} : ∀ {k : Nat}, (∀ i, 1 ≤ i → i ≤ k → g' i = g i) → rl g' k = rl g k
  | 0, _ => rfl
  | k + 1, h => by
    unfold rl
    rw [h (k + 1) (by first | decide | with_reducible assumption | omega) (by first | decide | with_reducible assumption | omega), rl_eq (k := k) (fun i h1 h2 => h i h1 (by first | decide | with_reducible assumption | omega))]
theorem rl_mem {g : Nat → Nat} {i : Nat} : ∀ {k : Nat}, 1 ≤ i → i ≤ k → g i ∈ rl g k
  | 0, h1, h2 => by omega
  | k + 1, h1, h2 => by
    unfold rl
    by_cases h : i = k + 1
    · subst h; exact List.mem_cons_self
    · exact List.mem_cons_of_mem _ (rl_mem (k := k) h1 (by first | decide | with_reducible assumption | omega))
theorem TL_par {f : Nat → Nat} : ∀ {L : List Nat}, TL f L → ∀ v, v ∈ L → f v = 0 ∨ f v ∈ L
  | [], _, v, hv => absurd hv List.not_mem_nil
  | u :: L, h, v, hv => by
    cases List.mem_cons.mp hv with
    | inl e =>
      subst e
      cases h.2.2.1 with
      | inl q => exact .inl q
      | inr q => exact .inr (List.mem_cons_of_mem _ q)
    | inr hv =>
      cases TL_par h.2.2.2 v hv with
      | inl q => exact .inl q
      | inr q => exact .inr (List.mem_cons_of_mem _ q)
theorem rl_len {g : Nat → Nat} : ∀ k, (rl g k).length = k
  | 0 => rfl
  | k + 1 => congrArg (· + 1) (rl_len k)
noncomputable def LM : List Rng := [(92, 0, 8), (93, 0, 8)]
/-- the row of places q + 1, cars below c are hung -/
noncomputable def LT (h0 h : pm_H) (q c n : Nat) : Prop := HH h ∧ fr_g LM h0 h ∧ gn h 93 0 = 0 ∧ n = 1 + cw (gn h0 89) q (gn h0 84 3) + ce (gn h0 89) (q + 1) c ∧ TL (gn h 92) (rl (gn h 93) (n - 1)) ∧ ∀ v, v ∈ rl (gn h 93) (n - 1) ↔ ∃ c', c' < gn h0 84 3 ∧ v = c' + 1 ∧ (gn h0 89 c' < q + 1 ∨ gn h0 89 c' = q + 1 ∧ c' < c)
theorem LT_n {h0 h : pm_H} {q c n : Nat} (T : LT h0 h q c n) (hc : c < gn h0 84 3) (he : gn h0 89 c = q + 1) : n ≤ gn h0 84 3 := by
  have h1 := cw_le (gn h0 89) (q + 1) (gn h0 84 3)
  have h2 := cw_succ (gn h0 89) q (gn h0 84 3)
  have h3 := ce_lt (gn h0 89) (q + 1) hc he
  have h4 := T.2.2.2.1
  omega
theorem LT_next {h0 h : pm_H} {q n : Nat} (T : LT h0 h q (gn h0 84 3) n) : LT h0 h (q + 1) 0 n := by
  obtain ⟨t1, t2, t3, t4, t5, t6⟩ := T
  refine ⟨t1, t2, t3, ?_, t5, fun v => ?_⟩
  · have h2 := cw_succ (gn h0 89) q (gn h0 84 3)
    have h3 : ce (gn h0 89) (q + 1 + 1) 0 = 0 := rfl
    omega
  · rw [t6]
    constructor
    · rintro ⟨c, a, b, e⟩; exact ⟨c, a, b, by omega⟩
    · rintro ⟨c, a, b, e⟩; exact ⟨c, a, b, by omega⟩
theorem LT_skip {h0 h : pm_H} {q c n : Nat} (T : LT h0 h q c n) (he : ¬ gn h0 89 c = q + 1) : LT h0 h q (c + 1) n := by
  obtain ⟨t1, t2, t3, t4, t5, t6⟩ := T
  refine ⟨t1, t2, t3, ?_, t5, fun v => ?_⟩
  · rw [ce_F he]; exact t4
  · rw [t6]
    constructor
    · rintro ⟨c', a, b, e⟩; exact ⟨c', a, b, by omega⟩
    · rintro ⟨c', a, b, e⟩
      refine ⟨c', a, b, ?_⟩
      by_cases hcc : c' = c
      · subst hcc; omega
      · omega
theorem LT_add {h0 h : pm_H} {q c n : Nat} (hh0 : HH h0) (hL : LWf h0) (hq : q < gn h0 84 0) (T : LT h0 h q c n) (hc : c < gn h0 84 3) (he : gn h0 89 c = q + 1) : LT h0 (pt (pt h 92 (c + 1) (nJ (gn h 93 q))) 93 n (nJ (c + 1))) q (c + 1) (n + 1) := by
  have hn := LT_n T hc he
  obtain ⟨t1, t2, t3, t4, t5, t6⟩ := T
  have hC8 : gn h0 84 3 ≤ 8 := gn_hi hh0 rfl (by decide)
  have hb : gn h 93 q ≤ 8 := gn_hi t1 (bd_u rfl (by have := hL.1; omega)) (by decide)
  have hh1 : HH (pt h 92 (c + 1) (nJ (gn h 93 q))) := HH_ptn t1 (bd_u rfl (by first | decide | with_reducible assumption | omega)) (by first | decide | with_reducible assumption | omega) (by first | decide | with_reducible assumption | omega) (by first | decide | with_reducible assumption | omega)
  have hh2 : HH (pt (pt h 92 (c + 1) (nJ (gn h 93 q))) 93 n (nJ (c + 1))) := HH_ptn hh1 (bd_u rfl (by first | decide | with_reducible assumption | omega)) (by first | decide | with_reducible assumption | omega) (by first | decide | with_reducible assumption | omega) (by first | decide | with_reducible assumption | omega)
  have e93 : gn (pt (pt h 92 (c + 1) (nJ (gn h 93 q))) 93 n (nJ (c + 1))) 93 n = c + 1 := gn_ptn hh1 (bd_u rfl (by first | decide | with_reducible assumption | omega)) (by first | decide | with_reducible assumption | omega) (by first | decide | with_reducible assumption | omega) (by first | decide | with_reducible assumption | omega)
  have e93' : ∀ i, i ≠ n → gn (pt (pt h 92 (c + 1) (nJ (gn h 93 q))) 93 n (nJ (c + 1))) 93 i = gn h 93 i := fun i hi => by rw [gn_ne (fun _ => hi), gn_ne (by first | exact gxx rfl | omega)]
  have e92 : gn (pt (pt h 92 (c + 1) (nJ (gn h 93 q))) 93 n (nJ (c + 1))) 92 (c + 1) = gn h 93 q := by rw [gn_ne (by first | exact gxx rfl | omega), gn_ptn t1 (bd_u rfl (by first | decide | with_reducible assumption | omega)) (by first | decide | with_reducible assumption | omega) (by first | decide | with_reducible assumption | omega) (by first | decide | with_reducible assumption | omega)]
  have erl : rl (gn (pt (pt h 92 (c + 1) (nJ (gn h 93 q))) 93 n (nJ (c + 1))) 93) (n + 1 - 1) = (c + 1) :: rl (gn h 93) (n - 1) := by
    rw [show n + 1 - 1 = (n - 1) + 1 by omega]
    unfold rl
    rw [show n - 1 + 1 = n by omega, e93, rl_eq (g := gn h 93) (fun i h1 h2 => e93' i (by first | decide | with_reducible assumption | omega))]
    cases n - 1 <;> rfl
  have hnL : c + 1 ∉ rl (gn h 93) (n - 1) := fun hm => by
    obtain ⟨c', a, b, e⟩ := (t6 _).mp hm
    have : c' = c := by omega
    subst this
    omega
  refine ⟨hh2, fr_ptr (l := 0) (u := 8) rfl (by first | decide | with_reducible assumption | omega) (by first | decide | with_reducible assumption | omega) (fr_ptr (l := 0) (u := 8) rfl (by first | decide | with_reducible assumption | omega) (by first | decide | with_reducible assumption | omega) t2), ?_, ?_, ?_, ?_⟩
  · rw [e93' 0 (by first | decide | with_reducible assumption | omega)]; exact t3
  · rw [ce_T he]; omega
  · rw [erl]
    refine ⟨by omega, hnL, ?_, TL_upd (fun v hv => ?_) t5⟩
    · rw [e92]
      by_cases h0 : q = 0
      · subst h0; exact .inl t3
      · right
        have := hL.2 q (by first | decide | with_reducible assumption | omega) (by first | decide | with_reducible assumption | omega)
        rw [← hL.1] at this
        exact rl_mem (by first | decide | with_reducible assumption | omega) (by first | decide | with_reducible assumption | omega)
    · have : v ≠ c + 1 := fun e => hnL (e ▸ hv)
      rw [gn_ne (by first | exact gxx rfl | omega), gn_ne (fun _ => this)]
  · intro v
    rw [erl, List.mem_cons, t6]
    constructor
    · rintro (rfl | ⟨c', a, b, e⟩)
      · exact ⟨c, hc, rfl, by omega⟩
      · exact ⟨c', a, b, by omega⟩
    · rintro ⟨c', a, b, e⟩
      by_cases hcc : c' = c
      · subst hcc; exact .inl b
      · exact .inr ⟨c', a, b, by omega⟩
theorem LT_end {h0 h : pm_H} {n : Nat} (hh0 : HH h0) (hL : LWf h0) (T : LT h0 h (gn h0 84 0) 0 n) : ∀ v, 1 ≤ v → v ≤ gn h0 84 3 → dep (hg h) 8 v ∧ gn h 92 v ≤ gn h0 84 3 := by
  obtain ⟨t1, t2, t3, t4, t5, t6⟩ := T
  intro v h1 h2
  have hC8 : gn h0 84 3 ≤ 8 := gn_hi hh0 rfl (by decide)
  have hw := cw_le (gn h0 89) (gn h0 84 0) (gn h0 84 3)
  have hall : ∀ c, c < gn h0 84 3 → gn h0 89 c ≤ gn h0 84 0 := cw_all (by
    have := hL.2 (gn h0 84 0) (by have := hL.1; omega) (Nat.le_refl _)
    rw [← hL.1] at this ⊢
    exact this)
  have h3 : ce (gn h0 89) (gn h0 84 0 + 1) 0 = 0 := rfl
  have hmem := (t6 v).mpr ⟨v - 1, by omega, by omega, .inl (by have := hall (v - 1) (by first | decide | with_reducible assumption | omega); omega)⟩
  constructor
  · rw [hg_gn]
    refine dep_le (TL_dep t5 v hmem) ?_
    rw [rl_len]
    omega
  · cases TL_par t5 v hmem with
    | inl e => omega
    | inr e =>
      obtain ⟨c', a, b, -⟩ := (t6 _).mp e
      omega
theorem lt_in {h0 : pm_H} {d q : Nat} (hh0 : HH h0) (hL : LWf h0) (hq : q < gn h0 84 0) (K : ∀ {h : pm_H} {n : Nat} (lv : List (Nat × Value)), LT h0 h (q + 1) 0 n → pm_get lv 0 = some (.ref 77) → pm_get lv 1 = some (.int (nJ n)) → pm_get lv 2 = some (.int (nJ (q + 1 + 1))) → Ends (pm_at tX9_laysTree) (pm_Rt pm_P (d + 1)) (11, lv, [], h, 0, 0) (fun h' r => r = none ∧ HH h' ∧ fr_g LM h0 h' ∧ ∀ v, 1 ≤ v → v ≤ gn h0 84 3 → dep (hg h') 8 v ∧ gn h' 92 v ≤ gn h0 84 3)) (j : Nat) : ∀ {h : pm_H} {c n : Nat} (lv : List (Nat × Value)), c + j = gn h0 84 3 → LT h0 h q c n → pm_get lv 0 = some (.ref 77) → pm_get lv 1 = some (.int (nJ n)) → pm_get lv 2 = some (.int (nJ (q + 1))) → pm_get lv 3 = some (.int (nJ c)) → Ends (pm_at tX9_laysTree) (pm_Rt pm_P (d + 1)) (21, lv, [], h, 0, 0) (fun h' r => r = none ∧ HH h' ∧ fr_g LM h0 h' ∧ ∀ v, 1 ≤ v → v ≤ gn h0 84 3 → dep (hg h') 8 v ∧ gn h' 92 v ≤ gn h0 84 3) := by
  have hC : gn h0 84 3 ≤ 8 := gn_hi hh0 rfl (by decide)
  have hCP := hL.1
  induction j with
  | zero =>
    intro h c n lv hj T L0 L1 L2 L3
    have hce : gn h 84 3 = gn h0 84 3 := fr_gn T.2.1 (rg_no rfl _)
    refine E_il rfl L3 ?_
    refine E_al rfl L0 ?_
    refine E_call rfl (sp_cars T.1) (chk77 T.1 rfl rfl (by show 1 ≤ 8; decide)) (fun h1 r1 => ?_)
    rintro ⟨e1, f1, c1⟩
    rw [e1, f1]
    show Ends _ _ (26, lv, [.int (nJ (gn h 84 3)), .int (nJ c)], h, 0, 0) _
    refine E_icT rfl (decide_eq_true ((nJ_le (by first | decide | with_reducible assumption | omega) (by first | decide | with_reducible assumption | omega)).mpr (by first | decide | with_reducible assumption | omega))) ?_
    refine E_inc rfl L2 (nJ_inc _) (fun lv2 L2_2 kp2 => ?_)
    have L2_0 := kp2 0 _ (nbz rfl) rfl L0
    have L2_1 := kp2 1 _ (nbz rfl) rfl L1
    have L2_3 := kp2 3 _ (nbz rfl) rfl L3
    refine E_goto rfl ?_
    exact K lv2 (LT_next (by rw [show gn h0 84 3 = c by omega]; exact T)) L2_0 L2_1 L2_2
  | succ j ih =>
    intro h c n lv hj T L0 L1 L2 L3
    have hce : gn h 84 3 = gn h0 84 3 := fr_gn T.2.1 (rg_no rfl _)
    refine E_il rfl L3 ?_
    refine E_al rfl L0 ?_
    refine E_call rfl (sp_cars T.1) (chk77 T.1 rfl rfl (by show 1 ≤ 8; decide)) (fun h1 r1 => ?_)
    rintro ⟨e1, f1, c1⟩
    rw [e1, f1]
    show Ends _ _ (26, lv, [.int (nJ (gn h 84 3)), .int (nJ c)], h, 0, 0) _
    refine E_icF rfl (decide_eq_false (fun q => absurd ((nJ_le (by first | decide | with_reducible assumption | omega) (by first | decide | with_reducible assumption | omega)).mp q) (by first | decide | with_reducible assumption | omega))) ?_
    have hw8 : gn h0 89 c ≤ 8 := gn_hi hh0 (bd_u rfl (by first | decide | with_reducible assumption | omega)) (by decide)
    refine E_al rfl L0 ?_
    refine E_gr rfl T.1 (q := 89) rfl ?_
    refine E_il rfl L3 ?_
    refine E_ial rfl T.1 rfl (by first | decide | with_reducible assumption | omega) (by decide) (show gi h 89 c = nJ ((gn h0 89 c)) from (by rw [fr_gi T.2.1 (rg_no rfl _)]; exact gi_gn hh0 (bd_u rfl (by first | decide | with_reducible assumption | omega)) (by decide))) ?_
    refine E_il rfl L2 ?_
    by_cases hb2 : (gn h0 89 c) = (q + 1)
    · refine E_icT rfl (decide_eq_true ((nJ_eq (by first | decide | with_reducible assumption | omega) (by first | decide | with_reducible assumption | omega)).mpr hb2)) ?_
      have hn8 := LT_n T (by first | decide | with_reducible assumption | omega) (by first | decide | with_reducible assumption | omega)
      refine E_al rfl L0 ?_
      refine E_gr rfl T.1 (q := 92) rfl ?_
      refine E_il rfl L3 ?_
      refine E_ci 1 rfl ci1 ?_
      refine E_bin rfl (nJ_add _ _) ?_
      refine E_al rfl L0 ?_
      refine E_gr rfl T.1 (q := 93) rfl ?_
      refine E_il rfl L2 ?_
      refine E_ci 1 rfl ci1 ?_
      refine E_bin rfl (show nJ (q + 1) - nJ 1 = nJ q from nJ_sub (by first | decide | with_reducible assumption | omega)) ?_
      have b3 : gn h 93 q ≤ 8 := gn_hi T.1 (bd_u rfl (by first | decide | with_reducible assumption | omega)) (by decide)
      refine E_ial rfl T.1 rfl (by first | decide | with_reducible assumption | omega) (by decide) (gi_gn T.1 (bd_u rfl (by first | decide | with_reducible assumption | omega)) (by decide)) ?_
      refine E_ias rfl T.1 rfl (by first | decide | with_reducible assumption | omega) (by decide) ?_
      have hh4 : HH (pt h 92 ((c + 1)) (nJ ((gn h 93 q)))) := HH_ptn T.1 (bd_u rfl (by first | decide | with_reducible assumption | omega)) (by first | decide | with_reducible assumption | omega) (by first | decide | with_reducible assumption | omega) (by first | decide | with_reducible assumption | omega)
      refine E_al rfl L0 ?_
      refine E_gr rfl hh4 (q := 93) rfl ?_
      refine E_il rfl L1 ?_
      refine E_il rfl L3 ?_
      refine E_ci 1 rfl ci1 ?_
      refine E_bin rfl (nJ_add _ _) ?_
      refine E_ias rfl hh4 rfl (by first | decide | with_reducible assumption | omega) (by decide) ?_
      have hh5 : HH (pt (pt h 92 ((c + 1)) (nJ ((gn h 93 q)))) 93 n (nJ ((c + 1)))) := HH_ptn hh4 (bd_u rfl (by first | decide | with_reducible assumption | omega)) (by first | decide | with_reducible assumption | omega) (by first | decide | with_reducible assumption | omega) (by first | decide | with_reducible assumption | omega)
      refine E_inc rfl L1 (nJ_inc _) (fun lv6 L6_1 kp6 => ?_)
      have L6_0 := kp6 0 _ (nbz rfl) rfl L0
      have L6_2 := kp6 2 _ (nbz rfl) rfl L2
      have L6_3 := kp6 3 _ (nbz rfl) rfl L3
      refine E_inc rfl L6_3 (nJ_inc _) (fun lv7 L7_3 kp7 => ?_)
      have L7_0 := kp7 0 _ (nbz rfl) rfl L6_0
      have L7_1 := kp7 1 _ (nbz rfl) rfl L6_1
      have L7_2 := kp7 2 _ (nbz rfl) rfl L6_2
      refine E_goto rfl ?_
      exact ih lv7 (by first | decide | with_reducible assumption | omega) (LT_add hh0 hL hq T (by first | decide | with_reducible assumption | omega) (by first | decide | with_reducible assumption | omega)) L7_0 L7_1 L7_2 L7_3
    · refine E_icF rfl (decide_eq_false (fun q => hb2 ((nJ_eq (by first | decide | with_reducible assumption | omega) (by first | decide | with_reducible assumption | omega)).mp q))) ?_
      refine E_goto rfl ?_
      refine E_inc rfl L3 (nJ_inc _) (fun lv8 L8_3 kp8 => ?_)
      have L8_0 := kp8 0 _ (nbz rfl) rfl L0
      have L8_1 := kp8 1 _ (nbz rfl) rfl L1
      have L8_2 := kp8 2 _ (nbz rfl) rfl L2
      refine E_goto rfl ?_
      exact ih lv8 (by first | decide | with_reducible assumption | omega) (LT_skip T (by first | decide | with_reducible assumption | omega)) L8_0 L8_1 L8_2 L8_3
theorem lt_out {h0 : pm_H} {d : Nat} (hh0 : HH h0) (hL : LWf h0) (j : Nat) : ∀ {h : pm_H} {q n : Nat} (lv : List (Nat × Value)), q + j = gn h0 84 0 → LT h0 h q 0 n → pm_get lv 0 = some (.ref 77) → pm_get lv 1 = some (.int (nJ n)) → pm_get lv 2 = some (.int (nJ (q + 1))) → Ends (pm_at tX9_laysTree) (pm_Rt pm_P (d + 1)) (11, lv, [], h, 0, 0) (fun h' r => r = none ∧ HH h' ∧ fr_g LM h0 h' ∧ ∀ v, 1 ≤ v → v ≤ gn h0 84 3 → dep (hg h') 8 v ∧ gn h' 92 v ≤ gn h0 84 3) := by
  have hP : gn h0 84 0 ≤ 8 := gn_hi hh0 rfl (by decide)
  induction j with
  | zero =>
    intro h q n lv hj T L0 L1 L2
    have hpe : gn h 84 0 = gn h0 84 0 := fr_gn T.2.1 (rg_no rfl _)
    refine E_il rfl L2 ?_
    refine E_al rfl L0 ?_
    refine E_call rfl (sp_places T.1) (chk77 T.1 rfl rfl (by show 1 ≤ 8; decide)) (fun h1 r1 => ?_)
    rintro ⟨e1, f1, c1⟩
    rw [e1, f1]
    show Ends _ _ (16, lv, [.int (nJ (gn h 84 0)), .int (nJ (q + 1))], h, 0, 0) _
    refine E_icT rfl (decide_eq_true ((nJ_lt (by first | decide | with_reducible assumption | omega) (by first | decide | with_reducible assumption | omega)).mpr (by first | decide | with_reducible assumption | omega))) ?_
    exact E_ret rfl ⟨rfl, T.1, T.2.1, LT_end hh0 hL (by rw [show gn h0 84 0 = q by omega]; exact T)⟩
  | succ j ih =>
    intro h q n lv hj T L0 L1 L2
    have hpe : gn h 84 0 = gn h0 84 0 := fr_gn T.2.1 (rg_no rfl _)
    refine E_il rfl L2 ?_
    refine E_al rfl L0 ?_
    refine E_call rfl (sp_places T.1) (chk77 T.1 rfl rfl (by show 1 ≤ 8; decide)) (fun h1 r1 => ?_)
    rintro ⟨e1, f1, c1⟩
    rw [e1, f1]
    show Ends _ _ (16, lv, [.int (nJ (gn h 84 0)), .int (nJ (q + 1))], h, 0, 0) _
    refine E_icF rfl (decide_eq_false (fun q => absurd ((nJ_lt (by first | decide | with_reducible assumption | omega) (by first | decide | with_reducible assumption | omega)).mp q) (by first | decide | with_reducible assumption | omega))) ?_
    refine E_ci 0 rfl ci0 ?_
    refine E_is rfl (fun lv2 L2_3 kp2 => ?_)
    have L2_0 := kp2 0 _ (nbz rfl) rfl L0
    have L2_1 := kp2 1 _ (nbz rfl) rfl L1
    have L2_2 := kp2 2 _ (nbz rfl) rfl L2
    exact lt_in hh0 hL (by first | decide | with_reducible assumption | omega) (fun lv T a b c => ih lv (by first | decide | with_reducible assumption | omega) T a b c) (gn h0 84 3) (c := 0) lv2 (by first | decide | with_reducible assumption | omega) T L2_0 L2_1 L2_2 L2_3
theorem sp_laysTree {h0 : pm_H} {d : Nat} (hh : HH h0) (hL : LWf h0) (hw1 : ∀ c, c < gn h0 84 3 → 1 ≤ gn h0 89 c) : Sp (d + 2) 299 h0 [.ref 77] (fun h' r => r = none ∧ HH h' ∧ fr_g LM h0 h' ∧ ∀ v, 1 ≤ v → v ≤ gn h0 84 3 → dep (hg h') 8 v ∧ gn h' 92 v ≤ gn h0 84 3) := by
  have hz : cw (gn h0 89) 0 (gn h0 84 3) = 0 := cw_none (fun c hc => by have := hw1 c hc; omega)
  refine Sp_of aiX9_laysTree rfl rfl rfl ?_
  refine E_ci 1 rfl ci1 ?_
  refine E_is rfl (fun lv1 L1_1 kp1 => ?_)
  have L1_0 := kp1 0 _ (nbz rfl) rfl (show pm_get (lv_args 0 [.ref 77]) 0 = _ from rfl)
  refine E_al rfl L1_0 ?_
  refine E_gr rfl hh (q := 93) rfl ?_
  refine E_ci 0 rfl ci0 ?_
  refine E_ci 0 rfl ci0 ?_
  refine E_ias rfl hh rfl (by first | decide | with_reducible assumption | omega) (by decide) ?_
  have hh2 : HH (pt h0 93 0 (nJ 0)) := HH_ptn hh (bd_u rfl (by first | decide | with_reducible assumption | omega)) (by first | decide | with_reducible assumption | omega) (by first | decide | with_reducible assumption | omega) (by first | decide | with_reducible assumption | omega)
  refine E_ci 1 rfl ci1 ?_
  refine E_is rfl (fun lv3 L3_2 kp3 => ?_)
  have L3_0 := kp3 0 _ (nbz rfl) rfl L1_0
  have L3_1 := kp3 1 _ (nbz rfl) rfl L1_1
  refine lt_out hh hL (gn h0 84 0) (q := 0) (n := 1) lv3 (by first | decide | with_reducible assumption | omega) ⟨hh2, fr_ptr (l := 0) (u := 8) rfl (by first | decide | with_reducible assumption | omega) (by first | decide | with_reducible assumption | omega) (fr_rf _ _), gn_ptn hh (bd_u rfl (by first | decide | with_reducible assumption | omega)) (by first | decide | with_reducible assumption | omega) (by first | decide | with_reducible assumption | omega) (by first | decide | with_reducible assumption | omega), ?_, trivial, fun v => ⟨fun hv => absurd hv List.not_mem_nil, fun ⟨c, a, b, e⟩ => ?_⟩⟩ L3_0 L3_1 L3_2
  · rw [hz]; rfl
  · exfalso; have := hw1 c a; omega
end
section
/-! by hand: a tree out of its edges (written by gen_t5.py) -/
theorem nJ_mul (a b : Nat) : nJ a * nJ b = nJ (a * b) := by
  unfold nJ
  rw [← Int32.ofInt_mul]
  rfl
/-- the other end of an edge -/
noncomputable def xr (k : Nat) : Nat := if k % 2 = 0 then k + 1 else k - 1
theorem xr_tab : ∀ k : Fin 18, nJ k.val ^^^ nJ 1 = nJ (xr k.val) := by decide +kernel
theorem xr_lt {k n : Nat} (h : k < 2 * n) : xr k < 2 * n := by
  unfold xr
  split <;> omega
theorem xr_xr (k : Nat) : xr (xr k) = k := by
  unfold xr
  by_cases h : k % 2 = 0
  · rw [if_pos h, if_neg (by first | decide | with_reducible assumption | omega)]; omega
  · rw [if_neg h, if_pos (by first | decide | with_reducible assumption | omega)]; omega
theorem sh_tab : ∀ n : Fin 10, nJ 1 <<< (nJ n.val &&& 31) = nJ (2 ^ n.val) := by decide +kernel
theorem full_ckX : (List.range 10).all (fun n => (List.range (2 ^ n)).all (fun m => Nat.beq m (2 ^ n - 1) || (List.range n).any (fun v => !(isB m v)))) = true := by decide +kernel
theorem full_tab : ∀ n : Fin 10, ∀ m : Fin 512, m.val < 2 ^ n.val → m.val ≠ 2 ^ n.val - 1 → ∃ v : Fin 9, v.val < n.val ∧ isB m.val v.val = false := by
  intro n m h1 h2
  have a := List.all_eq_true.mp (List.all_eq_true.mp full_ckX n.val (List.mem_range.mpr n.isLt)) m.val (List.mem_range.mpr h1)
  rw [Bool.or_eq_true] at a
  rcases a with a | a
  · exact absurd (Nat.eq_of_beq_eq_true a) h2
  · obtain ⟨v, hv, e⟩ := List.any_eq_true.mp a
    have hv := List.mem_range.mp hv
    have := n.isLt
    refine ⟨⟨v, by omega⟩, hv, ?_⟩
    cases k : isB m.val v
    · rfl
    · rw [k] at e; cases e
theorem all_tab : ∀ n : Fin 10, ∀ v : Fin 9, v.val < n.val → isB (2 ^ n.val - 1) v.val = true := by decide +kernel
theorem add_ckX : (List.range 10).all (fun n => (List.range (2 ^ n)).all (fun m => (List.range n).all (fun v => isB m v || Nat.blt (m + 2 ^ v) (2 ^ n)))) = true := by decide +kernel
theorem add_tab : ∀ n : Fin 10, ∀ m : Fin 512, m.val < 2 ^ n.val → ∀ v : Fin 9, v.val < n.val → isB m.val v.val = false → m.val + 2 ^ v.val < 2 ^ n.val := by
  intro n m h1 v h2 h3
  have a := List.all_eq_true.mp (List.all_eq_true.mp (List.all_eq_true.mp add_ckX n.val (List.mem_range.mpr n.isLt)) m.val (List.mem_range.mpr h1)) v.val (List.mem_range.mpr h2)
  rw [h3, Bool.false_or] at a
  exact Nat.le_of_ble_eq_true a
theorem pow_tab : ∀ n : Fin 10, 1 ≤ 2 ^ n.val ∧ 2 ^ n.val ≤ 512 := by decide +kernel
theorem pcn_slt {m m' v : Nat} : ∀ {n : Nat}, (∀ k, k < n → isB m k = true → isB m' k = true) → v < n → isB m v = false → isB m' v = true → pcn m n < pcn m' n
  | 0, _, h, _, _ => absurd h (Nat.not_lt_zero _)
  | n + 1, h, hv, h1, h2 => by
    unfold pcn
    by_cases hn : v = n
    · subst hn
      have := pcn_mono (n := v) (fun k hk => h k (by first | decide | with_reducible assumption | omega))
      rw [h1, h2, if_neg (by decide), if_pos rfl]
      omega
    · have := pcn_slt (n := n) (fun k hk => h k (by first | decide | with_reducible assumption | omega)) (by first | decide | with_reducible assumption | omega) h1 h2
      by_cases h3 : isB m n = true
      · rw [if_pos h3, if_pos (h n (by first | decide | with_reducible assumption | omega) h3)]; omega
      · rw [if_neg h3]; split <;> omega
noncomputable def RM : List Rng := [(92, 0, 8)]
noncomputable def RS (h0 h : pm_H) (N m : Nat) (L : List Nat) : Prop := HH h ∧ fr_g RM h0 h ∧ m < 2 ^ N ∧ isB m 0 = true ∧ TL (gn h 92) L ∧ (∀ v, v ∈ L ↔ v ≠ 0 ∧ v < N ∧ isB m v = true) ∧ L.length + 1 = pcn m N ∧ ∀ v, v ∈ L → gn h 92 v < N
theorem RS_add {h0 h : pm_H} {N m a b : Nat} {L : List Nat} (R : RS h0 h N m L) (hN : N ≤ 9) (ha : a < N) (hb : b < N) (h1 : isB m a = true) (h2 : isB m b = false) : RS h0 (pt h 92 b (nJ a)) N (m + 2 ^ b) (b :: L) := by
  obtain ⟨r1, r2, r3, r4, r5, r6, r7, r8⟩ := R
  have hm : m < 512 := Nat.lt_of_lt_of_le r3 (pow_tab ⟨N, by omega⟩).2
  have hh1 : HH (pt h 92 b (nJ a)) := HH_ptn r1 (bd_u rfl (by first | decide | with_reducible assumption | omega)) (by first | decide | with_reducible assumption | omega) (by first | decide | with_reducible assumption | omega) (by first | decide | with_reducible assumption | omega)
  have e92 : gn (pt h 92 b (nJ a)) 92 b = a := gn_ptn r1 (bd_u rfl (by first | decide | with_reducible assumption | omega)) (by first | decide | with_reducible assumption | omega) (by first | decide | with_reducible assumption | omega) (by first | decide | with_reducible assumption | omega)
  have hb0 : b ≠ 0 := fun e => by rw [e, r4] at h2; cases h2
  have hbL : b ∉ L := fun e => by rw [((r6 b).mp e).2.2] at h2; cases h2
  have hB : ∀ v, v < N → isB (m + 2 ^ b) v = (v == b || isB m v) := fun v hv => isB_add hm (by first | decide | with_reducible assumption | omega) (by first | decide | with_reducible assumption | omega) h2
  refine ⟨hh1, fr_ptr (l := 0) (u := 8) rfl (by first | decide | with_reducible assumption | omega) (by first | decide | with_reducible assumption | omega) r2, add_tab ⟨N, by omega⟩ ⟨m, hm⟩ r3 ⟨b, by omega⟩ hb h2, ?_, ⟨hb0, hbL, ?_, TL_upd (fun v hv => gn_ne (fun _ e => hbL (e ▸ hv))) r5⟩, fun v => ⟨fun hv => ?_, fun hv => ?_⟩, ?_, fun v hv => ?_⟩
  · rw [hB 0 (by first | decide | with_reducible assumption | omega), r4, Bool.or_true]
  · rw [e92]
    by_cases h0 : a = 0
    · exact .inl h0
    · exact .inr ((r6 a).mpr ⟨h0, ha, h1⟩)
  · cases List.mem_cons.mp hv with
    | inl e => subst e; exact ⟨hb0, hb, by rw [hB v hb, beq_self_eq_true]; rfl⟩
    | inr e =>
      obtain ⟨q1, q2, q3⟩ := (r6 v).mp e
      exact ⟨q1, q2, by rw [hB v q2, q3, Bool.or_true]⟩
  · obtain ⟨q1, q2, q3⟩ := hv
    by_cases e : v = b
    · rw [e]; exact List.mem_cons_self
    · rw [hB v q2, show (v == b) = false from beq_eq_false_iff_ne.mpr e, Bool.false_or] at q3
      exact List.mem_cons_of_mem _ ((r6 v).mpr ⟨q1, q2, q3⟩)
  · rw [List.length_cons, pcn_add hm (by first | decide | with_reducible assumption | omega) h2 hN, if_pos hb]; omega
  · cases List.mem_cons.mp hv with
    | inl e => rw [e, e92]; exact ha
    | inr e =>
      have hvb : v ≠ b := fun e2 => hbL (e2 ▸ e)
      rw [gn_ne (fun _ => hvb)]
      exact r8 v e
/-- every set of nodes with node 0 that isn't all is left by an edge -/
noncomputable def CNx (h0 : pm_H) (N : Nat) : Prop := ∀ m, m < 512 → isB m 0 = true → (∃ v, v < N ∧ isB m v = false) → ∃ k, k < 2 * (N - 1) ∧ isB m (gn h0 96 k) = true ∧ isB m (gn h0 96 (xr k)) = false
noncomputable def RQ (h0 : pm_H) (N : Nat) (h' : pm_H) (r : Option Value) : Prop := r = none ∧ HH h' ∧ fr_g RM h0 h' ∧ ∀ v, 1 ≤ v → v < N → dep (hg h') 8 v ∧ gn h' 92 v < N
theorem RS_end {h0 h : pm_H} {N m : Nat} {L : List Nat} (R : RS h0 h N m L) (hN : N ≤ 9) (hm : m = 2 ^ N - 1) : RQ h0 N h none := by
  obtain ⟨r1, r2, r3, r4, r5, r6, r7, r8⟩ := R
  refine ⟨rfl, r1, r2, fun v h1 h2 => ?_⟩
  have hv : v ∈ L := (r6 v).mpr ⟨by omega, h2, by rw [hm]; exact all_tab ⟨N, by omega⟩ ⟨v, by omega⟩ h2⟩
  refine ⟨?_, r8 v hv⟩
  rw [hg_gn]
  have := pcn_le m N
  exact dep_le (TL_dep r5 v hv) (by first | decide | with_reducible assumption | omega)
theorem ro_in {h0 : pm_H} {d N M0 : Nat} (hh0 : HH h0) (hN2 : 2 ≤ N) (hN9 : N ≤ 9) (hE : ∀ k, k < 2 * (N - 1) → gn h0 96 k < N) (K : ∀ {h : pm_H} {m : Nat} {L : List Nat} (lv : List (Nat × Value)), RS h0 h N m L → (∀ v, v < N → isB M0 v = true → isB m v = true) → (∀ k, k < 2 * (N - 1) → isB M0 (gn h0 96 k) = true → isB m (gn h0 96 (xr k)) = true) → pm_get lv 0 = some (.ref 77) → pm_get lv 1 = some (.int (nJ N)) → pm_get lv 2 = some (.int (nJ m)) → Ends (pm_at tX9_roots) (pm_Rt pm_P (d + 1)) (2, lv, [], h, 0, 0) (RQ h0 N)) (j : Nat) : ∀ {h : pm_H} {m k : Nat} {L : List Nat} (lv : List (Nat × Value)), k + j = 2 * (N - 1) → RS h0 h N m L → (∀ v, v < N → isB M0 v = true → isB m v = true) → (∀ k1, k1 < k → isB M0 (gn h0 96 k1) = true → isB m (gn h0 96 (xr k1)) = true) → pm_get lv 0 = some (.ref 77) → pm_get lv 1 = some (.int (nJ N)) → pm_get lv 2 = some (.int (nJ m)) → pm_get lv 3 = some (.int (nJ k)) → Ends (pm_at tX9_roots) (pm_Rt pm_P (d + 1)) (13, lv, [], h, 0, 0) (RQ h0 N) := by
  induction j with
  | zero =>
    intro h m k L lv hj R hsub hpr L0 L1 L2 L3
    have hm5 : m < 512 := Nat.lt_of_lt_of_le R.2.2.1 (pow_tab ⟨N, by omega⟩).2
    refine E_il rfl L3 ?_
    refine E_ci 2 rfl ci2 ?_
    refine E_il rfl L1 ?_
    refine E_ci 1 rfl ci1 ?_
    refine E_bin rfl (nJ_sub (by first | decide | with_reducible assumption | omega)) ?_
    refine E_bin rfl (nJ_mul _ _) ?_
    refine E_icT rfl (decide_eq_true ((nJ_le (by first | decide | with_reducible assumption | omega) (by first | decide | with_reducible assumption | omega)).mpr (by first | decide | with_reducible assumption | omega))) ?_
    refine E_goto rfl ?_
    exact K lv R hsub (fun k1 hk1 a => hpr k1 (by first | decide | with_reducible assumption | omega) a) L0 L1 L2
  | succ j ih =>
    intro h m k L lv hj R hsub hpr L0 L1 L2 L3
    have hm5 : m < 512 := Nat.lt_of_lt_of_le R.2.2.1 (pow_tab ⟨N, by omega⟩).2
    refine E_il rfl L3 ?_
    refine E_ci 2 rfl ci2 ?_
    refine E_il rfl L1 ?_
    refine E_ci 1 rfl ci1 ?_
    refine E_bin rfl (nJ_sub (by first | decide | with_reducible assumption | omega)) ?_
    refine E_bin rfl (nJ_mul _ _) ?_
    refine E_icF rfl (decide_eq_false (fun q => absurd ((nJ_le (by first | decide | with_reducible assumption | omega) (by first | decide | with_reducible assumption | omega)).mp q) (by first | decide | with_reducible assumption | omega))) ?_
    have hek := hE k (by first | decide | with_reducible assumption | omega)
    have hxl : xr k < 2 * (N - 1) := xr_lt (by first | decide | with_reducible assumption | omega)
    have hex := hE (xr k) hxl
    refine E_al rfl L0 ?_
    refine E_gr rfl R.1 (q := 96) rfl ?_
    refine E_il rfl L3 ?_
    refine E_ial rfl R.1 rfl (by first | decide | with_reducible assumption | omega) (by decide) (show gi h 96 k = nJ ((gn h0 96 k)) from (by rw [fr_gi R.2.1 (rg_no rfl _)]; exact gi_gn hh0 (bd_u rfl (by first | decide | with_reducible assumption | omega)) (by decide))) ?_
    refine E_is rfl (fun lv1 L1_4 kp1 => ?_)
    have L1_0 := kp1 0 _ (nbz rfl) rfl L0
    have L1_1 := kp1 1 _ (nbz rfl) rfl L1
    have L1_2 := kp1 2 _ (nbz rfl) rfl L2
    have L1_3 := kp1 3 _ (nbz rfl) rfl L3
    refine E_al rfl L1_0 ?_
    refine E_gr rfl R.1 (q := 96) rfl ?_
    refine E_il rfl L1_3 ?_
    refine E_ci 1 rfl ci1 ?_
    refine E_bin rfl (show nJ k ^^^ nJ 1 = nJ (xr k) from xr_tab ⟨k, by omega⟩) ?_
    refine E_ial rfl R.1 rfl (by first | decide | with_reducible assumption | omega) (by decide) (show gi h 96 ((xr k)) = nJ ((gn h0 96 (xr k))) from (by rw [fr_gi R.2.1 (rg_no rfl _)]; exact gi_gn hh0 (bd_u rfl (by first | decide | with_reducible assumption | omega)) (by decide))) ?_
    refine E_is rfl (fun lv2 L2_5 kp2 => ?_)
    have L2_0 := kp2 0 _ (nbz rfl) rfl L1_0
    have L2_1 := kp2 1 _ (nbz rfl) rfl L1_1
    have L2_2 := kp2 2 _ (nbz rfl) rfl L1_2
    have L2_3 := kp2 3 _ (nbz rfl) rfl L1_3
    have L2_4 := kp2 4 _ (nbz rfl) rfl L1_4
    refine E_il rfl L2_2 ?_
    refine E_il rfl L2_4 ?_
    refine E_call rfl (sp_isBit (by first | decide | with_reducible assumption | omega) (by first | decide | with_reducible assumption | omega)) (chkS rfl (by show 0 ≤ 8; decide)) (fun h3 r3 => ?_)
    rintro ⟨e3, f3⟩
    rw [e3, f3]
    show Ends _ _ (46, lv2, [.int (nJ (bif isB m ((gn h0 96 k)) then 1 else 0))], h, 0, 0) _
    by_cases hb4 : isB m (gn h0 96 k) = false
    · refine E_ifT rfl (by rw [hb4]; rfl) ?_
      refine E_inc rfl L2_3 (nJ_inc _) (fun lv5 L5_3 kp5 => ?_)
      have L5_0 := kp5 0 _ (nbz rfl) rfl L2_0
      have L5_1 := kp5 1 _ (nbz rfl) rfl L2_1
      have L5_2 := kp5 2 _ (nbz rfl) rfl L2_2
      have L5_4 := kp5 4 _ (nbz rfl) rfl L2_4
      have L5_5 := kp5 5 _ (nbz rfl) rfl L2_5
      refine E_goto rfl ?_
      refine ih lv5 (by first | decide | with_reducible assumption | omega) R hsub (fun k1 hk1 a => ?_) L5_0 L5_1 L5_2 L5_3
      by_cases hkk : k1 = k
      · subst hkk; rw [hsub _ hek a] at hb4; cases hb4
      · exact hpr k1 (by first | decide | with_reducible assumption | omega) a
    · refine E_ifF rfl (by rw [Bool.not_eq_false] at hb4; rw [hb4]; rfl) ?_
      refine E_il rfl L2_2 ?_
      refine E_il rfl L2_5 ?_
      refine E_call rfl (sp_isBit (by first | decide | with_reducible assumption | omega) (by first | decide | with_reducible assumption | omega)) (chkS rfl (by show 0 ≤ 8; decide)) (fun h6 r6 => ?_)
      rintro ⟨e6, f6⟩
      rw [e6, f6]
      show Ends _ _ (55, lv2, [.int (nJ (bif isB m ((gn h0 96 (xr k))) then 1 else 0))], h, 0, 0) _
      by_cases hb7 : isB m (gn h0 96 (xr k)) = false
      · refine E_ifT rfl (by rw [hb7]; rfl) ?_
        rw [Bool.not_eq_false] at hb4
        obtain ⟨m2, hm2⟩ : ∃ m2, m2 = m + 2 ^ gn h0 96 (xr k) := ⟨_, rfl⟩
        have hm2l : m2 < 512 := by rw [hm2]; exact isB_add_lt hm5 (by first | decide | with_reducible assumption | omega) hb7
        have hup : ∀ v, v < N → isB m v = true → isB m2 v = true := fun v hv h4 => by rw [hm2, isB_add hm5 (by first | decide | with_reducible assumption | omega) (by first | decide | with_reducible assumption | omega) hb7, h4, Bool.or_true]
        refine E_al rfl L2_0 ?_
        refine E_gr rfl R.1 (q := 92) rfl ?_
        refine E_il rfl L2_5 ?_
        refine E_il rfl L2_4 ?_
        refine E_ias rfl R.1 rfl (by first | decide | with_reducible assumption | omega) (by decide) ?_
        have hh8 : HH (pt h 92 ((gn h0 96 (xr k))) (nJ ((gn h0 96 k)))) := HH_ptn R.1 (bd_u rfl (by first | decide | with_reducible assumption | omega)) (by first | decide | with_reducible assumption | omega) (by first | decide | with_reducible assumption | omega) (by first | decide | with_reducible assumption | omega)
        refine E_il rfl L2_2 ?_
        refine E_ci 1 rfl ci1 ?_
        refine E_il rfl L2_5 ?_
        refine E_bin rfl rfl ?_
        refine E_bin rfl (show nJ m ||| nJ 1 <<< (nJ (gn h0 96 (xr k)) &&& 31) = nJ m2 from (by rw [hm2]; exact or_new hm5 (by first | decide | with_reducible assumption | omega) hb7)) ?_
        refine E_is rfl (fun lv9 L9_2 kp9 => ?_)
        have L9_0 := kp9 0 _ (nbz rfl) rfl L2_0
        have L9_1 := kp9 1 _ (nbz rfl) rfl L2_1
        have L9_3 := kp9 3 _ (nbz rfl) rfl L2_3
        have L9_4 := kp9 4 _ (nbz rfl) rfl L2_4
        have L9_5 := kp9 5 _ (nbz rfl) rfl L2_5
        refine E_inc rfl L9_3 (nJ_inc _) (fun lv10 L10_3 kp10 => ?_)
        have L10_0 := kp10 0 _ (nbz rfl) rfl L9_0
        have L10_1 := kp10 1 _ (nbz rfl) rfl L9_1
        have L10_2 := kp10 2 _ (nbz rfl) rfl L9_2
        have L10_4 := kp10 4 _ (nbz rfl) rfl L9_4
        have L10_5 := kp10 5 _ (nbz rfl) rfl L9_5
        refine E_goto rfl ?_
        refine ih lv10 (by first | decide | with_reducible assumption | omega) (hm2 ▸ RS_add R hN9 hek hex hb4 hb7) (fun v hv a => hup v hv (hsub v hv a)) (fun k1 hk1 a => ?_) L10_0 L10_1 L10_2 L10_3
        by_cases hkk : k1 = k
        · subst hkk; rw [hm2, isB_add hm5 (by first | decide | with_reducible assumption | omega) (by first | decide | with_reducible assumption | omega) hb7, beq_self_eq_true]; rfl
        · exact hup _ (hE _ (xr_lt (by first | decide | with_reducible assumption | omega))) (hpr k1 (by first | decide | with_reducible assumption | omega) a)
      · refine E_ifF rfl (by rw [Bool.not_eq_false] at hb7; rw [hb7]; rfl) ?_
        refine E_goto rfl ?_
        refine E_inc rfl L2_3 (nJ_inc _) (fun lv11 L11_3 kp11 => ?_)
        have L11_0 := kp11 0 _ (nbz rfl) rfl L2_0
        have L11_1 := kp11 1 _ (nbz rfl) rfl L2_1
        have L11_2 := kp11 2 _ (nbz rfl) rfl L2_2
        have L11_4 := kp11 4 _ (nbz rfl) rfl L2_4
        have L11_5 := kp11 5 _ (nbz rfl) rfl L2_5
        refine E_goto rfl ?_
        refine ih lv11 (by first | decide | with_reducible assumption | omega) R hsub (fun k1 hk1 a => ?_) L11_0 L11_1 L11_2 L11_3
        by_cases hkk : k1 = k
        · subst hkk; rw [Bool.not_eq_false] at hb7; exact hb7
        · exact hpr k1 (by first | decide | with_reducible assumption | omega) a
theorem ro_one {h0 : pm_H} {d N u : Nat} (hh0 : HH h0) (hN2 : 2 ≤ N) (hN9 : N ≤ 9) (hE : ∀ k, k < 2 * (N - 1) → gn h0 96 k < N) (hC : CNx h0 N) (ih : ∀ u', u = u' + 1 → ∀ {h : pm_H} {m : Nat} {L : List Nat} (lv : List (Nat × Value)), RS h0 h N m L → N ≤ u' + pcn m N → pm_get lv 0 = some (.ref 77) → pm_get lv 1 = some (.int (nJ N)) → pm_get lv 2 = some (.int (nJ m)) → Ends (pm_at tX9_roots) (pm_Rt pm_P (d + 1)) (2, lv, [], h, 0, 0) (RQ h0 N)) {h : pm_H} {m : Nat} {L : List Nat} (lv : List (Nat × Value)) (R : RS h0 h N m L) (hu : N ≤ u + pcn m N) (L0 : pm_get lv 0 = some (.ref 77)) (L1 : pm_get lv 1 = some (.int (nJ N))) (L2 : pm_get lv 2 = some (.int (nJ m))) : Ends (pm_at tX9_roots) (pm_Rt pm_P (d + 1)) (2, lv, [], h, 0, 0) (RQ h0 N) := by
  have hm5 : m < 512 := Nat.lt_of_lt_of_le R.2.2.1 (pow_tab ⟨N, by omega⟩).2
  obtain ⟨T, hT⟩ : ∃ T, T = 2 ^ N := ⟨_, rfl⟩
  have hT1 : 1 ≤ T ∧ T ≤ 512 := by rw [hT]; exact pow_tab ⟨N, by omega⟩
  refine E_il rfl L2 ?_
  refine E_ci 1 rfl ci1 ?_
  refine E_il rfl L1 ?_
  refine E_bin rfl (show nJ 1 <<< (nJ N &&& 31) = nJ T from (by rw [hT]; exact sh_tab ⟨N, by omega⟩)) ?_
  refine E_ci 1 rfl ci1 ?_
  refine E_bin rfl (nJ_sub (by first | decide | with_reducible assumption | omega)) ?_
  by_cases hb1 : m = (T - 1)
  · refine E_icT rfl (decide_eq_true ((nJ_eq (by first | decide | with_reducible assumption | omega) (by first | decide | with_reducible assumption | omega)).mpr hb1)) ?_
    exact E_ret rfl (RS_end R hN9 (by rw [hT] at hb1; exact hb1))
  · refine E_icF rfl (decide_eq_false (fun q => hb1 ((nJ_eq (by first | decide | with_reducible assumption | omega) (by first | decide | with_reducible assumption | omega)).mp q))) ?_
    refine E_ci 0 rfl ci0 ?_
    refine E_is rfl (fun lv2 L2_3 kp2 => ?_)
    have L2_0 := kp2 0 _ (nbz rfl) rfl L0
    have L2_1 := kp2 1 _ (nbz rfl) rfl L1
    have L2_2 := kp2 2 _ (nbz rfl) rfl L2
    obtain ⟨v0, hv1, hv2⟩ := full_tab ⟨N, by omega⟩ ⟨m, hm5⟩ R.2.2.1 (by rw [hT] at hb1; exact hb1)
    have hpl : pcn m N < N := pcn_lt hv2 hv1
    obtain ⟨k0, hk0, hk1, hk2⟩ := hC m hm5 R.2.2.2.1 ⟨v0, hv1, hv2⟩
    refine ro_in hh0 hN2 hN9 hE (fun {h'} {m'} {L'} lv' R' sub' pr' a b c => ?_) (2 * (N - 1)) (k := 0) lv2 (by first | decide | with_reducible assumption | omega) R (fun _ _ a => a) (fun k1 hk1 _ => absurd hk1 (Nat.not_lt_zero _)) L2_0 L2_1 L2_2 L2_3
    have := pcn_slt (n := N) sub' (hE _ (xr_lt hk0)) hk2 (pr' k0 hk0 hk1)
    cases u with
    | zero => exfalso; omega
    | succ u => exact ih u rfl lv' R' (by first | decide | with_reducible assumption | omega) a b c
theorem ro_out {h0 : pm_H} {d N : Nat} (hh0 : HH h0) (hN2 : 2 ≤ N) (hN9 : N ≤ 9) (hE : ∀ k, k < 2 * (N - 1) → gn h0 96 k < N) (hC : CNx h0 N) : ∀ (u : Nat) {h : pm_H} {m : Nat} {L : List Nat} (lv : List (Nat × Value)), RS h0 h N m L → N ≤ u + pcn m N → pm_get lv 0 = some (.ref 77) → pm_get lv 1 = some (.int (nJ N)) → pm_get lv 2 = some (.int (nJ m)) → Ends (pm_at tX9_roots) (pm_Rt pm_P (d + 1)) (2, lv, [], h, 0, 0) (RQ h0 N)
  | 0 => ro_one hh0 hN2 hN9 hE hC (fun u' hu' => by omega)
  | u + 1 => ro_one hh0 hN2 hN9 hE hC (fun u' hu' => by
      have : u' = u := by omega
      subst this
      exact @ro_out h0 d N hh0 hN2 hN9 hE hC u')
theorem one_tab : ∀ n : Fin 10, 2 ≤ n.val → 1 < 2 ^ n.val := by decide +kernel
theorem pc1_tab : ∀ n : Fin 10, 2 ≤ n.val → ([] : List Nat).length + 1 = pcn 1 n.val := by decide +kernel
theorem one_bit : ∀ v : Fin 9, v.val ≠ 0 → isB 1 v.val = false := by decide +kernel
theorem sp_roots {h0 : pm_H} {d N : Nat} (hh : HH h0) (hN2 : 2 ≤ N) (hN9 : N ≤ 9) (hE : ∀ k, k < 2 * (N - 1) → gn h0 96 k < N) (hC : CNx h0 N) : Sp (d + 2) 337 h0 [.ref 77, .int (nJ N)] (RQ h0 N) := by
  refine Sp_of aiX9_roots rfl rfl rfl ?_
  refine E_ci 1 rfl ci1 ?_
  refine E_is rfl (fun lv1 L1_2 kp1 => ?_)
  have L1_0 := kp1 0 _ (nbz rfl) rfl (show pm_get (lv_args 0 [.ref 77, .int (nJ N)]) 0 = _ from rfl)
  have L1_1 := kp1 1 _ (nbz rfl) rfl (show pm_get (lv_args 0 [.ref 77, .int (nJ N)]) 1 = _ from rfl)
  refine ro_out hh hN2 hN9 hE hC N (m := 1) (L := []) lv1 ⟨hh, fr_rf _ _, one_tab ⟨N, by omega⟩ hN2, rfl, trivial, fun v => ⟨fun hv => absurd hv List.not_mem_nil, fun ⟨q1, q2, q3⟩ => absurd q3 (by rw [one_bit ⟨v, by omega⟩ q1]; decide)⟩, pc1_tab ⟨N, by omega⟩ hN2, fun v hv => absurd hv List.not_mem_nil⟩ (by first | decide | with_reducible assumption | omega) L1_0 L1_1 L1_2
end
section
/-! by hand: a tree out of a code (written by gen_t6.py) -/
theorem nJ_inc2 (a : Nat) : nJ (2 * a) + 2 = nJ (2 * (a + 1)) := nJ_add (2 * a) 2
noncomputable def fu (l : Nat → Nat) (v x : Nat) : Nat → Nat := fun u => if u = v then x else l u
theorem fu_same (l : Nat → Nat) (v x : Nat) : fu l v x v = x := if_pos rfl
theorem fu_ne {l : Nat → Nat} {v x u : Nat} (h : u ≠ v) : fu l v x u = l u := if_neg h
noncomputable def sm (l : Nat → Nat) : Nat → Nat
  | 0 => 0
  | n + 1 => sm l n + l n
noncomputable def lc (l : Nat → Nat) : Nat → Nat
  | 0 => 0
  | n + 1 => lc l n + (if l n = 0 then 0 else 1)
theorem sm_eq {l l' : Nat → Nat} : ∀ {n : Nat}, (∀ v, v < n → l' v = l v) → sm l' n = sm l n
  | 0, _ => rfl
  | n + 1, h => by
    unfold sm
    rw [sm_eq (n := n) (fun v hv => h v (by first | decide | with_reducible assumption | omega)), h n (by first | decide | with_reducible assumption | omega)]
theorem sm_fu {l : Nat → Nat} {v x : Nat} : ∀ {n : Nat}, v < n → sm (fu l v x) n + l v = sm l n + x
  | 0, h => absurd h (Nat.not_lt_zero _)
  | n + 1, h => by
    unfold sm
    by_cases e : v = n
    · subst e
      rw [fu_same, sm_eq (l := l) (fun u hu => fu_ne (by first | decide | with_reducible assumption | omega))]
      omega
    · have := sm_fu (l := l) (v := v) (x := x) (n := n) (by first | decide | with_reducible assumption | omega)
      rw [fu_ne (show n ≠ v by omega)]
      omega
theorem lc_eq {l l' : Nat → Nat} : ∀ {n : Nat}, (∀ v, v < n → (l' v = 0 ↔ l v = 0)) → lc l' n = lc l n
  | 0, _ => rfl
  | n + 1, h => by
    unfold lc
    rw [lc_eq (n := n) (fun v hv => h v (by first | decide | with_reducible assumption | omega))]
    by_cases e : l n = 0
    · rw [if_pos e, if_pos ((h n (by first | decide | with_reducible assumption | omega)).mpr e)]
    · rw [if_neg e, if_neg (fun q => e ((h n (by first | decide | with_reducible assumption | omega)).mp q))]
theorem lc_fu0 {l : Nat → Nat} {v : Nat} (hv : l v ≠ 0) : ∀ {n : Nat}, v < n → lc (fu l v 0) n + 1 = lc l n
  | 0, h => absurd h (Nat.not_lt_zero _)
  | n + 1, h => by
    unfold lc
    by_cases e : v = n
    · subst e
      rw [fu_same, if_pos rfl, if_neg hv, lc_eq (l := l) (fun u hu => by rw [fu_ne (by first | decide | with_reducible assumption | omega)])]
    · have := lc_fu0 hv (n := n) (by first | decide | with_reducible assumption | omega)
      rw [fu_ne (show n ≠ v by omega)]
      omega
theorem lc_fu1 {l : Nat → Nat} {v x n : Nat} (hv : l v ≠ 0) (hx : x ≠ 0) : lc (fu l v x) n = lc l n := lc_eq (fun u _ => by
  by_cases e : u = v
  · subst e; rw [fu_same]; exact ⟨fun q => absurd q hx, fun q => absurd q hv⟩
  · rw [fu_ne e])
theorem lc_zero {l : Nat → Nat} : ∀ {n : Nat}, lc l n = 0 → ∀ v, v < n → l v = 0
  | 0, _, v, hv => absurd hv (Nat.not_lt_zero _)
  | n + 1, h, v, hv => by
    unfold lc at h
    by_cases e : l n = 0
    · rw [if_pos e] at h
      by_cases hn : v = n
      · subst hn; exact e
      · exact lc_zero (n := n) (by first | decide | with_reducible assumption | omega) v (by first | decide | with_reducible assumption | omega)
    · rw [if_neg e] at h; omega
theorem lc_pos {l : Nat → Nat} {n : Nat} (h : lc l n ≠ 0) : ∃ v, v < n ∧ l v ≠ 0 := by
  by_cases hx : ∃ v, v < n ∧ l v ≠ 0
  · exact hx
  · exfalso
    apply h
    have : lc l n = lc (fun _ => 0) n := lc_eq (fun v hv => ⟨fun _ => rfl, fun _ => Classical.byContradiction fun q => hx ⟨v, hv, q⟩⟩)
    rw [this]
    clear this hx h
    induction n with
    | zero => rfl
    | succ n ih => unfold lc; rw [ih, if_pos rfl]
theorem lc_all {l : Nat → Nat} : ∀ {n : Nat}, (∀ v, v < n → l v ≠ 0) → lc l n = n
  | 0, _ => rfl
  | n + 1, h => by
    unfold lc
    rw [lc_all (n := n) (fun v hv => h v (by first | decide | with_reducible assumption | omega)), if_neg (h n (by first | decide | with_reducible assumption | omega))]
theorem sm_one {l : Nat → Nat} : ∀ {n : Nat}, (∀ v, v < n → l v = 1) → sm l n = n
  | 0, _ => rfl
  | n + 1, h => by
    unfold sm
    rw [sm_one (n := n) (fun v hv => h v (by first | decide | with_reducible assumption | omega)), h n (by first | decide | with_reducible assumption | omega)]
theorem sm_lc {l : Nat → Nat} : ∀ {n : Nat}, (∀ v, v < n → l v ≠ 1) → 2 * lc l n ≤ sm l n
  | 0, _ => Nat.le_refl _
  | n + 1, h => by
    have ih := sm_lc (n := n) (fun v hv => h v (by first | decide | with_reducible assumption | omega))
    have h1 := h n (by first | decide | with_reducible assumption | omega)
    unfold sm lc
    by_cases e : l n = 0
    · rw [if_pos e]; omega
    · rw [if_neg e]; omega
theorem leaf_ex {l : Nat → Nat} {n k : Nat} (h1 : sm l n = 2 * k + 2) (h2 : lc l n = k + 2) : ∃ v, v < n ∧ l v = 1 := by
  by_cases hx : ∃ v, v < n ∧ l v = 1
  · exact hx
  · have := sm_lc (l := l) (n := n) (fun v hv q => hx ⟨v, hv, q⟩)
    omega
/-- how often a number stands in a piece of a row -/
noncomputable def ocr (c : Nat → Nat) (v : Nat) : Nat → Nat → Nat
  | 0, _ => 0
  | k + 1, i => (if c i = v then 1 else 0) + ocr c v k (i + 1)
theorem ocr_le (c : Nat → Nat) (v : Nat) : ∀ k i, ocr c v k i ≤ k
  | 0, _ => Nat.le_refl _
  | k + 1, i => by
    have := ocr_le c v k (i + 1)
    unfold ocr
    split <;> omega
theorem ocr_no {c : Nat → Nat} {v : Nat} : ∀ {k i : Nat}, ocr c v k i = 0 → ∀ j, i ≤ j → j < i + k → c j ≠ v
  | 0, i, _, j, h1, h2 => by omega
  | k + 1, i, h, j, h1, h2 => by
    unfold ocr at h
    by_cases e : c i = v
    · rw [if_pos e] at h; omega
    · rw [if_neg e] at h
      by_cases hj : j = i
      · subst hj; exact e
      · exact ocr_no (k := k) (i := i + 1) (by first | decide | with_reducible assumption | omega) j (by first | decide | with_reducible assumption | omega) (by first | decide | with_reducible assumption | omega)
noncomputable def DM : List Rng := [(92, 0, 8), (94, 0, 8), (96, 0, 17)]
noncomputable def DQ (h0 : pm_H) (N : Nat) (h' : pm_H) (r : Option Value) : Prop := r = none ∧ HH h' ∧ fr_g DM h0 h' ∧ ∀ v, 1 ≤ v → v < N → dep (hg h') 8 v ∧ gn h' 92 v < N
/-- the code is read from its i-th number on, k are left -/
noncomputable def RD (h0 h : pm_H) (N i k : Nat) (l : Nat → Nat) : Prop := HH h ∧ fr_g DM h0 h ∧ (∀ v, v < N → gi h 94 v = nJ (l v)) ∧ (∀ v, v < N → l v = 0 ∨ l v = 1 + ocr (gn h0 95) v k i) ∧ (∀ j, i ≤ j → j < i + k → l (gn h0 95 j) ≠ 0) ∧ sm l N = 2 * k + 2 ∧ lc l N = k + 2 ∧ (∀ q, q < 2 * i → gn h 96 q < N) ∧ ∀ m, m < 512 → (∃ u v, u < N ∧ v < N ∧ isB m u = true ∧ isB m v = false) → (∃ q, q < 2 * i ∧ isB m (gn h 96 q) ≠ isB m (gn h 96 (xr q))) ∨ ∃ u v, u < N ∧ v < N ∧ l u ≠ 0 ∧ l v ≠ 0 ∧ isB m u = true ∧ isB m v = false
theorem xr_even (i : Nat) : xr (2 * i) = 2 * i + 1 := if_pos (by first | decide | with_reducible assumption | omega)
theorem ne_bool {a b : Bool} (h : a ≠ b) : (a = true ∧ b = false) ∨ (a = false ∧ b = true) := by
  cases a <;> cases b <;> simp_all
theorem RD_step {h0 h : pm_H} {N i k x : Nat} {l : Nat → Nat} (hN9 : N ≤ 9) (hik : i + (k + 1) = N - 2) (hc : gn h0 95 i < N) (R : RD h0 h N i (k + 1) l) (hx : x < N) (hl : l x = 1) :
    RD h0 (pt (pt (pt (pt h 96 (2 * i) (nJ x)) 96 (2 * i + 1) (nJ (gn h0 95 i))) 94 x (nJ 0)) 94 (gn h0 95 i) (nJ (l (gn h0 95 i) - 1))) N (i + 1) k (fu (fu l x 0) (gn h0 95 i) (l (gn h0 95 i) - 1)) := by
  obtain ⟨r1, r2, r3, r4, r5, r6, r7, r8, r9⟩ := R
  generalize hcc : gn h0 95 i = c at hc ⊢
  have hlc : l c = 1 + ocr (gn h0 95) c (k + 1) i := by
    have := r5 i (Nat.le_refl _) (by first | decide | with_reducible assumption | omega)
    rw [hcc] at this
    cases r4 c hc with
    | inl e => exact absurd e this
    | inr e => exact e
  have hoc : ocr (gn h0 95) c (k + 1) i = 1 + ocr (gn h0 95) c k (i + 1) := by
    show (if gn h0 95 i = c then 1 else 0) + _ = _
    rw [if_pos hcc]
  have hxc : x ≠ c := fun e => by rw [e] at hl; omega
  have hb8 := ocr_le (gn h0 95) c k (i + 1)
  have hox : ocr (gn h0 95) x (k + 1) i = 0 := by
    cases r4 x hx with
    | inl e => omega
    | inr e => omega
  have hh1 : HH (pt h 96 (2 * i) (nJ x)) := HH_ptn r1 (bd_u rfl (by first | decide | with_reducible assumption | omega)) (by first | decide | with_reducible assumption | omega) (by first | decide | with_reducible assumption | omega) (by first | decide | with_reducible assumption | omega)
  have hh2 : HH (pt (pt h 96 (2 * i) (nJ x)) 96 (2 * i + 1) (nJ c)) := HH_ptn hh1 (bd_u rfl (by first | decide | with_reducible assumption | omega)) (by first | decide | with_reducible assumption | omega) (by first | decide | with_reducible assumption | omega) (by first | decide | with_reducible assumption | omega)
  have hh3 : HH (pt (pt (pt h 96 (2 * i) (nJ x)) 96 (2 * i + 1) (nJ c)) 94 x (nJ 0)) := HH_ptn hh2 (bd_u rfl (by first | decide | with_reducible assumption | omega)) (by first | decide | with_reducible assumption | omega) (by first | decide | with_reducible assumption | omega) (by first | decide | with_reducible assumption | omega)
  have hh4 : HH (pt (pt (pt (pt h 96 (2 * i) (nJ x)) 96 (2 * i + 1) (nJ c)) 94 x (nJ 0)) 94 c (nJ (l c - 1))) := HH_ptn hh3 (bd_u rfl (by first | decide | with_reducible assumption | omega)) (by first | decide | with_reducible assumption | omega) (by first | decide | with_reducible assumption | omega) (by first | decide | with_reducible assumption | omega)
  have e96 : ∀ q, gn (pt (pt (pt (pt h 96 (2 * i) (nJ x)) 96 (2 * i + 1) (nJ c)) 94 x (nJ 0)) 94 c (nJ (l c - 1))) 96 q = gn (pt (pt h 96 (2 * i) (nJ x)) 96 (2 * i + 1) (nJ c)) 96 q := fun q => by rw [gn_ne (by first | exact gxx rfl | omega), gn_ne (by first | exact gxx rfl | omega)]
  have eA : gn (pt (pt h 96 (2 * i) (nJ x)) 96 (2 * i + 1) (nJ c)) 96 (2 * i) = x := by rw [gn_ne (by first | exact gxx rfl | omega), gn_ptn r1 (bd_u rfl (by first | decide | with_reducible assumption | omega)) (by first | decide | with_reducible assumption | omega) (by first | decide | with_reducible assumption | omega) (by first | decide | with_reducible assumption | omega)]
  have eB : gn (pt (pt h 96 (2 * i) (nJ x)) 96 (2 * i + 1) (nJ c)) 96 (2 * i + 1) = c := gn_ptn hh1 (bd_u rfl (by first | decide | with_reducible assumption | omega)) (by first | decide | with_reducible assumption | omega) (by first | decide | with_reducible assumption | omega) (by first | decide | with_reducible assumption | omega)
  have eC : ∀ q, q < 2 * i → gn (pt (pt h 96 (2 * i) (nJ x)) 96 (2 * i + 1) (nJ c)) 96 q = gn h 96 q := fun q hq => by rw [gn_ne (by first | exact gxx rfl | omega), gn_ne (by first | exact gxx rfl | omega)]
  refine ⟨hh4, fr_ptr (l := 0) (u := 8) rfl (by first | decide | with_reducible assumption | omega) (by first | decide | with_reducible assumption | omega) (fr_ptr (l := 0) (u := 8) rfl (by first | decide | with_reducible assumption | omega) (by first | decide | with_reducible assumption | omega) (fr_ptr (l := 0) (u := 17) rfl (by first | decide | with_reducible assumption | omega) (by first | decide | with_reducible assumption | omega) (fr_ptr (l := 0) (u := 17) rfl (by first | decide | with_reducible assumption | omega) (by first | decide | with_reducible assumption | omega) r2))), fun v hv => ?_, fun v hv => ?_, fun j h1 h2 => ?_, ?_, ?_, fun q hq => ?_, fun m hm hs => ?_⟩
  · by_cases e : v = c
    · rw [e, fu_same, gi_pt hh3 (bd_u rfl (by first | decide | with_reducible assumption | omega)) (ai_lo _) (ai_hi _)]
    · rw [fu_ne e, gi_ne (fun _ => e)]
      by_cases e2 : v = x
      · rw [e2, fu_same, gi_pt hh2 (bd_u rfl (by first | decide | with_reducible assumption | omega)) (ai_lo _) (ai_hi _)]
      · rw [fu_ne e2, gi_ne (fun _ => e2), gi_ne (by first | exact gxx rfl | omega), gi_ne (by first | exact gxx rfl | omega)]
        exact r3 v hv
  · by_cases e : v = c
    · rw [e, fu_same]; right; omega
    · rw [fu_ne e]
      by_cases e2 : v = x
      · rw [e2, fu_same]; exact .inl rfl
      · rw [fu_ne e2]
        have hov : ocr (gn h0 95) v (k + 1) i = ocr (gn h0 95) v k (i + 1) := by
          show (if gn h0 95 i = v then 1 else 0) + _ = _
          rw [if_neg (fun q => e (by rw [← q, hcc])), Nat.zero_add]
        rw [← hov]
        exact r4 v hv
  · have h3 := r5 j (by first | decide | with_reducible assumption | omega) (by first | decide | with_reducible assumption | omega)
    have h4 := ocr_no hox j (by first | decide | with_reducible assumption | omega) (by first | decide | with_reducible assumption | omega)
    by_cases e : gn h0 95 j = c
    · rw [e, fu_same]; omega
    · rw [fu_ne e, fu_ne h4]; exact h3
  · have s1 := sm_fu (l := fu l x 0) (v := c) (x := l c - 1) (n := N) hc
    have s2 := sm_fu (l := l) (v := x) (x := 0) (n := N) hx
    rw [fu_ne (Ne.symm hxc)] at s1
    omega
  · have s2 := lc_fu0 (l := l) (v := x) (by first | decide | with_reducible assumption | omega) (n := N) hx
    rw [lc_fu1 (by rw [fu_ne (Ne.symm hxc)]; omega) (by first | decide | with_reducible assumption | omega)]
    omega
  · rw [e96]
    by_cases h1 : q = 2 * i
    · rw [h1, eA]; exact hx
    · by_cases h2 : q = 2 * i + 1
      · rw [h2, eB]; exact hc
      · rw [eC q (by first | decide | with_reducible assumption | omega)]; exact r8 q (by first | decide | with_reducible assumption | omega)
  · cases r9 m hm hs with
    | inl e =>
      obtain ⟨q, q1, q2⟩ := e
      have q3 := xr_lt q1
      exact .inl ⟨q, by omega, by rw [e96, e96, eC q q1, eC _ q3]; exact q2⟩
    | inr e =>
      obtain ⟨u, v, u1, v1, u2, v2, u3, v3⟩ := e
      by_cases hxb : isB m x = isB m c
      · right
        have key : ∀ u, u < N → l u ≠ 0 → ∃ u', u' < N ∧ fu (fu l x 0) c (l c - 1) u' ≠ 0 ∧ isB m u' = isB m u := by
          intro u u1 u2
          by_cases hu : u = x
          · exact ⟨c, hc, by rw [fu_same]; omega, by rw [hu]; exact hxb.symm⟩
          · by_cases huc : u = c
            · exact ⟨c, hc, by rw [fu_same]; omega, by rw [huc]⟩
            · exact ⟨u, u1, by rw [fu_ne huc, fu_ne hu]; exact u2, rfl⟩
        obtain ⟨u', a1, a2, a3⟩ := key u u1 u2
        obtain ⟨v', b1, b2, b3⟩ := key v v1 v2
        exact ⟨u', v', a1, b1, a2, b2, by rw [a3]; exact u3, by rw [b3]; exact v3⟩
      · exact .inl ⟨2 * i, by omega, by rw [e96, e96, xr_even, eA, eB]; exact hxb⟩
theorem RD_end {h0 h : pm_H} {N a b : Nat} {l : Nat → Nat} (hN2 : 2 ≤ N) (hN9 : N ≤ 9) (R : RD h0 h N (N - 2) 0 l) (ha : a < N) (hb : b < N) (hab : a ≠ b) (hla : l a = 1) (hlb : l b = 1) : HH (pt (pt h 96 (2 * (N - 2)) (nJ a)) 96 (2 * (N - 2) + 1) (nJ b)) ∧ fr_g DM h0 (pt (pt h 96 (2 * (N - 2)) (nJ a)) 96 (2 * (N - 2) + 1) (nJ b)) ∧ (∀ k, k < 2 * (N - 1) → gn (pt (pt h 96 (2 * (N - 2)) (nJ a)) 96 (2 * (N - 2) + 1) (nJ b)) 96 k < N) ∧ CNx (pt (pt h 96 (2 * (N - 2)) (nJ a)) 96 (2 * (N - 2) + 1) (nJ b)) N := by
  obtain ⟨r1, r2, r3, r4, r5, r6, r7, r8, r9⟩ := R
  have hh1 : HH (pt h 96 (2 * (N - 2)) (nJ a)) := HH_ptn r1 (bd_u rfl (by first | decide | with_reducible assumption | omega)) (by first | decide | with_reducible assumption | omega) (by first | decide | with_reducible assumption | omega) (by first | decide | with_reducible assumption | omega)
  have hh2 : HH (pt (pt h 96 (2 * (N - 2)) (nJ a)) 96 (2 * (N - 2) + 1) (nJ b)) := HH_ptn hh1 (bd_u rfl (by first | decide | with_reducible assumption | omega)) (by first | decide | with_reducible assumption | omega) (by first | decide | with_reducible assumption | omega) (by first | decide | with_reducible assumption | omega)
  have eA : gn (pt (pt h 96 (2 * (N - 2)) (nJ a)) 96 (2 * (N - 2) + 1) (nJ b)) 96 (2 * (N - 2)) = a := by rw [gn_ne (by first | exact gxx rfl | omega), gn_ptn r1 (bd_u rfl (by first | decide | with_reducible assumption | omega)) (by first | decide | with_reducible assumption | omega) (by first | decide | with_reducible assumption | omega) (by first | decide | with_reducible assumption | omega)]
  have eB : gn (pt (pt h 96 (2 * (N - 2)) (nJ a)) 96 (2 * (N - 2) + 1) (nJ b)) 96 (2 * (N - 2) + 1) = b := gn_ptn hh1 (bd_u rfl (by first | decide | with_reducible assumption | omega)) (by first | decide | with_reducible assumption | omega) (by first | decide | with_reducible assumption | omega) (by first | decide | with_reducible assumption | omega)
  have eC : ∀ q, q < 2 * (N - 2) → gn (pt (pt h 96 (2 * (N - 2)) (nJ a)) 96 (2 * (N - 2) + 1) (nJ b)) 96 q = gn h 96 q := fun q hq => by rw [gn_ne (by first | exact gxx rfl | omega), gn_ne (by first | exact gxx rfl | omega)]
  refine ⟨hh2, fr_ptr (l := 0) (u := 17) rfl (by first | decide | with_reducible assumption | omega) (by first | decide | with_reducible assumption | omega) (fr_ptr (l := 0) (u := 17) rfl (by first | decide | with_reducible assumption | omega) (by first | decide | with_reducible assumption | omega) r2), fun q hq => ?_, fun m hm h0 hv => ?_⟩
  · by_cases h1 : q = 2 * (N - 2)
    · rw [h1, eA]; exact ha
    · by_cases h2 : q = 2 * (N - 2) + 1
      · rw [h2, eB]; exact hb
      · rw [eC q (by first | decide | with_reducible assumption | omega)]; exact r8 q (by first | decide | with_reducible assumption | omega)
  · obtain ⟨v, v1, v2⟩ := hv
    have key : ∃ q, q < 2 * (N - 1) ∧ isB m (gn (pt (pt h 96 (2 * (N - 2)) (nJ a)) 96 (2 * (N - 2) + 1) (nJ b)) 96 q) ≠ isB m (gn (pt (pt h 96 (2 * (N - 2)) (nJ a)) 96 (2 * (N - 2) + 1) (nJ b)) 96 (xr q)) := by
      cases r9 m hm ⟨0, v, by omega, v1, h0, v2⟩ with
      | inl e =>
        obtain ⟨q, q1, q2⟩ := e
        have q3 := xr_lt q1
        exact ⟨q, by omega, by rw [eC q q1, eC _ q3]; exact q2⟩
      | inr e =>
        obtain ⟨u, w, u1, w1, u2, w2, u3, w3⟩ := e
        have only : ∀ u, u < N → l u ≠ 0 → u = a ∨ u = b := by
          intro u u1 u2
          by_cases h1 : u = a
          · exact .inl h1
          · by_cases h2 : u = b
            · exact .inr h2
            · exfalso
              have s1 := lc_fu0 (l := l) (v := a) (by first | decide | with_reducible assumption | omega) (n := N) ha
              have s2 := lc_fu0 (l := fu l a 0) (v := b) (by rw [fu_ne (Ne.symm hab)]; omega) (n := N) hb
              have s3 := lc_zero (l := fu (fu l a 0) b 0) (n := N) (by first | decide | with_reducible assumption | omega) u u1
              rw [fu_ne h2, fu_ne h1] at s3
              exact u2 s3
        refine ⟨2 * (N - 2), by omega, ?_⟩
        rw [xr_even, eA, eB]
        cases only u u1 u2 with
        | inl e1 => cases only w w1 w2 with
          | inl e2 => rw [e1] at u3; rw [e2, u3] at w3; cases w3
          | inr e2 => rw [← e1, ← e2, u3, w3]; decide
        | inr e1 => cases only w w1 w2 with
          | inl e2 => rw [← e1, ← e2, u3, w3]; decide
          | inr e2 => rw [e1] at u3; rw [e2, u3] at w3; cases w3
    obtain ⟨q, q1, q2⟩ := key
    cases ne_bool q2 with
    | inl e => exact ⟨q, q1, e.1, e.2⟩
    | inr e => exact ⟨xr q, xr_lt q1, e.2, by rw [xr_xr]; exact e.1⟩
theorem rd_s1 {d N : Nat} {h : pm_H} {l : Nat → Nat} {Q : pm_H → Option Value → Prop} {e i s y : Nat} (hh : HH h) (hN9 : N ≤ 9) (hl : ∀ v, v < N → gi h 94 v = nJ (l v)) (hl8 : ∀ v, v < N → l v < 100) (hy : y < N) (hly : l y = 1) (K : ∀ {x : Nat} (lv : List (Nat × Value)), x < N → s ≤ x → l x = 1 → (∀ v, s ≤ v → v < x → ¬ l v = 1) → pm_get lv 0 = some (.ref 77) → pm_get lv 1 = some (.int (nJ N)) → pm_get lv 2 = some (.int (nJ e)) → pm_get lv 3 = some (.int (nJ i)) → pm_get lv 4 = some (.int (nJ x)) → Ends (pm_at tX9_reads0) (pm_Rt pm_P (d + 2)) (81, lv, [], h, 0, 0) Q) (j : Nat) : ∀ {x : Nat} (lv : List (Nat × Value)), x + j = y → s ≤ x → (∀ v, s ≤ v → v < x → ¬ l v = 1) → pm_get lv 0 = some (.ref 77) → pm_get lv 1 = some (.int (nJ N)) → pm_get lv 2 = some (.int (nJ e)) → pm_get lv 3 = some (.int (nJ i)) → pm_get lv 4 = some (.int (nJ x)) → Ends (pm_at tX9_reads0) (pm_Rt pm_P (d + 2)) (64, lv, [], h, 0, 0) Q := by
  induction j with
  | zero =>
    intro x lv hj hbs hbe L0 L1 L2 L3 L4
    have hxy : x = y := by omega
    subst hxy
    have hlx := hl8 x (by first | decide | with_reducible assumption | omega)
    refine E_al rfl L0 ?_
    refine E_gr rfl hh (q := 94) rfl ?_
    refine E_il rfl L4 ?_
    refine E_ial rfl hh rfl (by first | decide | with_reducible assumption | omega) (by decide) (show gi h 94 x = nJ ((l x)) from hl x (by first | decide | with_reducible assumption | omega)) ?_
    refine E_ci 1 rfl ci1 ?_
    refine E_icT rfl (decide_eq_true ((nJ_eq (by first | decide | with_reducible assumption | omega) (by first | decide | with_reducible assumption | omega)).mpr hly)) ?_
    exact K lv (by first | decide | with_reducible assumption | omega) hbs hly hbe L0 L1 L2 L3 L4
  | succ j ih =>
    intro x lv hj hbs hbe L0 L1 L2 L3 L4
    have hlx := hl8 x (by first | decide | with_reducible assumption | omega)
    refine E_al rfl L0 ?_
    refine E_gr rfl hh (q := 94) rfl ?_
    refine E_il rfl L4 ?_
    refine E_ial rfl hh rfl (by first | decide | with_reducible assumption | omega) (by decide) (show gi h 94 x = nJ ((l x)) from hl x (by first | decide | with_reducible assumption | omega)) ?_
    refine E_ci 1 rfl ci1 ?_
    by_cases hb1 : l x = 1
    · refine E_icT rfl (decide_eq_true ((nJ_eq (by first | decide | with_reducible assumption | omega) (by first | decide | with_reducible assumption | omega)).mpr hb1)) ?_
      exact K lv (by first | decide | with_reducible assumption | omega) hbs hb1 hbe L0 L1 L2 L3 L4
    · refine E_icF rfl (decide_eq_false (fun q => hb1 ((nJ_eq (by first | decide | with_reducible assumption | omega) (by first | decide | with_reducible assumption | omega)).mp q))) ?_
      refine E_inc rfl L4 (nJ_inc _) (fun lv2 L2_4 kp2 => ?_)
      have L2_0 := kp2 0 _ (nbz rfl) rfl L0
      have L2_1 := kp2 1 _ (nbz rfl) rfl L1
      have L2_2 := kp2 2 _ (nbz rfl) rfl L2
      have L2_3 := kp2 3 _ (nbz rfl) rfl L3
      refine E_goto rfl ?_
      exact ih lv2 (by first | decide | with_reducible assumption | omega) (by first | decide | with_reducible assumption | omega) (fun v h1 h2 => by by_cases e : v = x; (· subst e; exact hb1); (· exact hbe v h1 (by first | decide | with_reducible assumption | omega))) L2_0 L2_1 L2_2 L2_3 L2_4
theorem rd_s2 {d N : Nat} {h : pm_H} {l : Nat → Nat} {Q : pm_H → Option Value → Prop} {e s y : Nat} (hh : HH h) (hN9 : N ≤ 9) (hl : ∀ v, v < N → gi h 94 v = nJ (l v)) (hl8 : ∀ v, v < N → l v < 100) (hy : y < N) (hly : l y = 1) (K : ∀ {x : Nat} (lv : List (Nat × Value)), x < N → s ≤ x → l x = 1 → (∀ v, s ≤ v → v < x → ¬ l v = 1) → pm_get lv 0 = some (.ref 77) → pm_get lv 1 = some (.int (nJ N)) → pm_get lv 2 = some (.int (nJ e)) → pm_get lv 3 = some (.int (nJ x)) → Ends (pm_at tX9_reads0) (pm_Rt pm_P (d + 2)) (153, lv, [], h, 0, 0) Q) (j : Nat) : ∀ {x : Nat} (lv : List (Nat × Value)), x + j = y → s ≤ x → (∀ v, s ≤ v → v < x → ¬ l v = 1) → pm_get lv 0 = some (.ref 77) → pm_get lv 1 = some (.int (nJ N)) → pm_get lv 2 = some (.int (nJ e)) → pm_get lv 3 = some (.int (nJ x)) → Ends (pm_at tX9_reads0) (pm_Rt pm_P (d + 2)) (137, lv, [], h, 0, 0) Q := by
  induction j with
  | zero =>
    intro x lv hj hbs hbe L0 L1 L2 L3
    have hxy : x = y := by omega
    subst hxy
    have hlx := hl8 x (by first | decide | with_reducible assumption | omega)
    refine E_al rfl L0 ?_
    refine E_gr rfl hh (q := 94) rfl ?_
    refine E_il rfl L3 ?_
    refine E_ial rfl hh rfl (by first | decide | with_reducible assumption | omega) (by decide) (show gi h 94 x = nJ ((l x)) from hl x (by first | decide | with_reducible assumption | omega)) ?_
    refine E_ci 1 rfl ci1 ?_
    refine E_icT rfl (decide_eq_true ((nJ_eq (by first | decide | with_reducible assumption | omega) (by first | decide | with_reducible assumption | omega)).mpr hly)) ?_
    exact K lv (by first | decide | with_reducible assumption | omega) hbs hly hbe L0 L1 L2 L3
  | succ j ih =>
    intro x lv hj hbs hbe L0 L1 L2 L3
    have hlx := hl8 x (by first | decide | with_reducible assumption | omega)
    refine E_al rfl L0 ?_
    refine E_gr rfl hh (q := 94) rfl ?_
    refine E_il rfl L3 ?_
    refine E_ial rfl hh rfl (by first | decide | with_reducible assumption | omega) (by decide) (show gi h 94 x = nJ ((l x)) from hl x (by first | decide | with_reducible assumption | omega)) ?_
    refine E_ci 1 rfl ci1 ?_
    by_cases hb1 : l x = 1
    · refine E_icT rfl (decide_eq_true ((nJ_eq (by first | decide | with_reducible assumption | omega) (by first | decide | with_reducible assumption | omega)).mpr hb1)) ?_
      exact K lv (by first | decide | with_reducible assumption | omega) hbs hb1 hbe L0 L1 L2 L3
    · refine E_icF rfl (decide_eq_false (fun q => hb1 ((nJ_eq (by first | decide | with_reducible assumption | omega) (by first | decide | with_reducible assumption | omega)).mp q))) ?_
      refine E_inc rfl L3 (nJ_inc _) (fun lv2 L2_3 kp2 => ?_)
      have L2_0 := kp2 0 _ (nbz rfl) rfl L0
      have L2_1 := kp2 1 _ (nbz rfl) rfl L1
      have L2_2 := kp2 2 _ (nbz rfl) rfl L2
      refine E_goto rfl ?_
      exact ih lv2 (by first | decide | with_reducible assumption | omega) (by first | decide | with_reducible assumption | omega) (fun v h1 h2 => by by_cases e : v = x; (· subst e; exact hb1); (· exact hbe v h1 (by first | decide | with_reducible assumption | omega))) L2_0 L2_1 L2_2 L2_3
theorem rd_s3 {d N : Nat} {h : pm_H} {l : Nat → Nat} {Q : pm_H → Option Value → Prop} {e a s y : Nat} (hh : HH h) (hN9 : N ≤ 9) (hl : ∀ v, v < N → gi h 94 v = nJ (l v)) (hl8 : ∀ v, v < N → l v < 100) (hy : y < N) (hly : l y = 1) (K : ∀ {x : Nat} (lv : List (Nat × Value)), x < N → s ≤ x → l x = 1 → (∀ v, s ≤ v → v < x → ¬ l v = 1) → pm_get lv 0 = some (.ref 77) → pm_get lv 1 = some (.int (nJ N)) → pm_get lv 2 = some (.int (nJ e)) → pm_get lv 3 = some (.int (nJ a)) → pm_get lv 4 = some (.int (nJ x)) → Ends (pm_at tX9_reads0) (pm_Rt pm_P (d + 2)) (175, lv, [], h, 0, 0) Q) (j : Nat) : ∀ {x : Nat} (lv : List (Nat × Value)), x + j = y → s ≤ x → (∀ v, s ≤ v → v < x → ¬ l v = 1) → pm_get lv 0 = some (.ref 77) → pm_get lv 1 = some (.int (nJ N)) → pm_get lv 2 = some (.int (nJ e)) → pm_get lv 3 = some (.int (nJ a)) → pm_get lv 4 = some (.int (nJ x)) → Ends (pm_at tX9_reads0) (pm_Rt pm_P (d + 2)) (158, lv, [], h, 0, 0) Q := by
  induction j with
  | zero =>
    intro x lv hj hbs hbe L0 L1 L2 L3 L4
    have hxy : x = y := by omega
    subst hxy
    have hlx := hl8 x (by first | decide | with_reducible assumption | omega)
    refine E_al rfl L0 ?_
    refine E_gr rfl hh (q := 94) rfl ?_
    refine E_il rfl L4 ?_
    refine E_ial rfl hh rfl (by first | decide | with_reducible assumption | omega) (by decide) (show gi h 94 x = nJ ((l x)) from hl x (by first | decide | with_reducible assumption | omega)) ?_
    refine E_ci 1 rfl ci1 ?_
    refine E_icT rfl (decide_eq_true ((nJ_eq (by first | decide | with_reducible assumption | omega) (by first | decide | with_reducible assumption | omega)).mpr hly)) ?_
    exact K lv (by first | decide | with_reducible assumption | omega) hbs hly hbe L0 L1 L2 L3 L4
  | succ j ih =>
    intro x lv hj hbs hbe L0 L1 L2 L3 L4
    have hlx := hl8 x (by first | decide | with_reducible assumption | omega)
    refine E_al rfl L0 ?_
    refine E_gr rfl hh (q := 94) rfl ?_
    refine E_il rfl L4 ?_
    refine E_ial rfl hh rfl (by first | decide | with_reducible assumption | omega) (by decide) (show gi h 94 x = nJ ((l x)) from hl x (by first | decide | with_reducible assumption | omega)) ?_
    refine E_ci 1 rfl ci1 ?_
    by_cases hb1 : l x = 1
    · refine E_icT rfl (decide_eq_true ((nJ_eq (by first | decide | with_reducible assumption | omega) (by first | decide | with_reducible assumption | omega)).mpr hb1)) ?_
      exact K lv (by first | decide | with_reducible assumption | omega) hbs hb1 hbe L0 L1 L2 L3 L4
    · refine E_icF rfl (decide_eq_false (fun q => hb1 ((nJ_eq (by first | decide | with_reducible assumption | omega) (by first | decide | with_reducible assumption | omega)).mp q))) ?_
      refine E_inc rfl L4 (nJ_inc _) (fun lv2 L2_4 kp2 => ?_)
      have L2_0 := kp2 0 _ (nbz rfl) rfl L0
      have L2_1 := kp2 1 _ (nbz rfl) rfl L1
      have L2_2 := kp2 2 _ (nbz rfl) rfl L2
      have L2_3 := kp2 3 _ (nbz rfl) rfl L3
      refine E_goto rfl ?_
      exact ih lv2 (by first | decide | with_reducible assumption | omega) (by first | decide | with_reducible assumption | omega) (fun v h1 h2 => by by_cases e : v = x; (· subst e; exact hb1); (· exact hbe v h1 (by first | decide | with_reducible assumption | omega))) L2_0 L2_1 L2_2 L2_3 L2_4
theorem rd_last {h0 : pm_H} {d N : Nat} (hh0 : HH h0) (hN2 : 2 ≤ N) (hN9 : N ≤ 9) (hc : ∀ j, j < N - 2 → gn h0 95 j < N) {h : pm_H} {a b : Nat} {l : Nat → Nat} (R : RD h0 h N (N - 2) 0 l) (ha : a < N) (hb : b < N) (hab : a ≠ b) (hla : l a = 1) (hlb : l b = 1) (lv : List (Nat × Value)) (L0 : pm_get lv 0 = some (.ref 77)) (L1 : pm_get lv 1 = some (.int (nJ N))) (L2 : pm_get lv 2 = some (.int (nJ (2 * (N - 2))))) (L3 : pm_get lv 3 = some (.int (nJ a))) (L4 : pm_get lv 4 = some (.int (nJ b))) : Ends (pm_at tX9_reads0) (pm_Rt pm_P (d + 2)) (175, lv, [], h, 0, 0) (DQ h0 N) := by
  refine E_al rfl L0 ?_
  refine E_gr rfl R.1 (q := 96) rfl ?_
  refine E_il rfl L2 ?_
  refine E_il rfl L3 ?_
  refine E_ias rfl R.1 rfl (by first | decide | with_reducible assumption | omega) (by decide) ?_
  have hh1 : HH (pt h 96 ((2 * (N - 2))) (nJ a)) := HH_ptn R.1 (bd_u rfl (by first | decide | with_reducible assumption | omega)) (by first | decide | with_reducible assumption | omega) (by first | decide | with_reducible assumption | omega) (by first | decide | with_reducible assumption | omega)
  refine E_al rfl L0 ?_
  refine E_gr rfl hh1 (q := 96) rfl ?_
  refine E_il rfl L2 ?_
  refine E_ci 1 rfl ci1 ?_
  refine E_bin rfl (nJ_add _ _) ?_
  refine E_il rfl L4 ?_
  refine E_ias rfl hh1 rfl (by first | decide | with_reducible assumption | omega) (by decide) ?_
  have hh2 : HH (pt (pt h 96 ((2 * (N - 2))) (nJ a)) 96 (((2 * (N - 2)) + 1)) (nJ b)) := HH_ptn hh1 (bd_u rfl (by first | decide | with_reducible assumption | omega)) (by first | decide | with_reducible assumption | omega) (by first | decide | with_reducible assumption | omega) (by first | decide | with_reducible assumption | omega)
  refine E_al rfl L0 ?_
  refine E_il rfl L1 ?_
  obtain ⟨k1, k2, k3, k4⟩ := RD_end hN2 hN9 R ha hb hab hla hlb
  refine E_call rfl (sp_roots k1 hN2 hN9 k3 k4) (chk77 hh2 rfl rfl (by show 0 ≤ 8; decide)) (fun h9 r9 => ?_)
  rintro ⟨e9, hh9, fr9, q9⟩
  rw [e9]
  show Ends _ _ (197, lv, [], h9, 0, 0) _
  exact E_ret rfl ⟨rfl, hh9, fr_trans k2 (fr_wk rfl fr9), q9⟩
theorem rd_two {h0 : pm_H} {d N : Nat} (hh0 : HH h0) (hN2 : 2 ≤ N) (hN9 : N ≤ 9) (hc : ∀ j, j < N - 2 → gn h0 95 j < N) {h : pm_H} {l : Nat → Nat} (R : RD h0 h N (N - 2) 0 l) (lv : List (Nat × Value)) (L0 : pm_get lv 0 = some (.ref 77)) (L1 : pm_get lv 1 = some (.int (nJ N))) (L2 : pm_get lv 2 = some (.int (nJ (2 * (N - 2))))) : Ends (pm_at tX9_reads0) (pm_Rt pm_P (d + 2)) (135, lv, [], h, 0, 0) (DQ h0 N) := by
  have hone : ∀ v, v < N → l v ≠ 0 → l v = 1 := fun v hv h1 => by
    cases R.2.2.2.1 v hv with
    | inl e => exact absurd e h1
    | inr e => exact e
  have hl8 : ∀ v, v < N → l v < 100 := fun v hv => by
    by_cases e : l v = 0
    · omega
    · rw [hone v hv e]; omega
  refine E_ci 0 rfl ci0 ?_
  refine E_is rfl (fun lv1 L1_3 kp1 => ?_)
  have L1_0 := kp1 0 _ (nbz rfl) rfl L0
  have L1_1 := kp1 1 _ (nbz rfl) rfl L1
  have L1_2 := kp1 2 _ (nbz rfl) rfl L2
  obtain ⟨y, hy, hly⟩ := leaf_ex (k := 0) R.2.2.2.2.2.1 R.2.2.2.2.2.2.1
  refine rd_s2 (s := 0) (y := y) R.1 hN9 R.2.2.1 hl8 hy hly (fun {x} lv1 hx _ hlx hbe K0 K1 K2 K3 => ?_) y lv1 (by first | decide | with_reducible assumption | omega) (Nat.zero_le _) (fun v h1 h2 => by omega) L1_0 L1_1 L1_2 L1_3
  refine E_il rfl K3 ?_
  refine E_ci 1 rfl ci1 ?_
  refine E_bin rfl (nJ_add _ _) ?_
  refine E_is rfl (fun lv1 L1_4 kp1 => ?_)
  have L1_0 := kp1 0 _ (nbz rfl) rfl K0
  have L1_1 := kp1 1 _ (nbz rfl) rfl K1
  have L1_2 := kp1 2 _ (nbz rfl) rfl K2
  have L1_3 := kp1 3 _ (nbz rfl) rfl K3
  have s1 := lc_fu0 (l := l) (v := x) (by first | decide | with_reducible assumption | omega) (n := N) hx
  obtain ⟨y2, y3, y4⟩ := lc_pos (l := fu l x 0) (n := N) (by have := R.2.2.2.2.2.2.1; omega)
  have hyx : y2 ≠ x := fun e => y4 (by rw [e, fu_same])
  rw [fu_ne hyx] at y4
  have hy1 : l y2 = 1 := hone y2 y3 y4
  have hgt : x < y2 := by
    by_cases q : y2 < x
    · exact absurd hy1 (hbe y2 (Nat.zero_le _) q)
    · omega
  exact rd_s3 (s := x + 1) (y := y2) R.1 hN9 R.2.2.1 hl8 y3 hy1 (fun {x2} lv2 a1 a2 a3 a4 b0 b1 b2 b3 b4 => rd_last hh0 hN2 hN9 hc R hx a1 (by first | decide | with_reducible assumption | omega) hlx a3 lv2 b0 b1 b2 b3 b4) (y2 - (x + 1)) lv1 (by first | decide | with_reducible assumption | omega) (Nat.le_refl _) (fun v h1 h2 => by omega) L1_0 L1_1 L1_2 L1_3 L1_4
theorem rd_loop {h0 : pm_H} {d N : Nat} (hh0 : HH h0) (hN2 : 2 ≤ N) (hN9 : N ≤ 9) (hc : ∀ j, j < N - 2 → gn h0 95 j < N) (k : Nat) : ∀ {h : pm_H} {i : Nat} {l : Nat → Nat} (lv : List (Nat × Value)), i + k = N - 2 → RD h0 h N i k l → pm_get lv 0 = some (.ref 77) → pm_get lv 1 = some (.int (nJ N)) → pm_get lv 2 = some (.int (nJ (2 * i))) → pm_get lv 3 = some (.int (nJ i)) → Ends (pm_at tX9_reads0) (pm_Rt pm_P (d + 2)) (54, lv, [], h, 0, 0) (DQ h0 N) := by
  induction k with
  | zero =>
    intro h i l lv hj R L0 L1 L2 L3
    have hiN : i = N - 2 := by omega
    refine E_il rfl L3 ?_
    refine E_il rfl L1 ?_
    refine E_ci 2 rfl ci2 ?_
    refine E_bin rfl (nJ_sub (by first | decide | with_reducible assumption | omega)) ?_
    refine E_icT rfl (decide_eq_true ((nJ_le (by first | decide | with_reducible assumption | omega) (by first | decide | with_reducible assumption | omega)).mpr (by first | decide | with_reducible assumption | omega))) ?_
    exact rd_two hh0 hN2 hN9 hc (hiN ▸ R) lv L0 L1 (hiN ▸ L2)
  | succ k ih =>
    intro h i l lv hj R L0 L1 L2 L3
    have hl8 : ∀ v, v < N → l v < 100 := fun v hv => by
      have := ocr_le (gn h0 95) v (k + 1) i
      cases R.2.2.2.1 v hv with
      | inl e => omega
      | inr e => omega
    refine E_il rfl L3 ?_
    refine E_il rfl L1 ?_
    refine E_ci 2 rfl ci2 ?_
    refine E_bin rfl (nJ_sub (by first | decide | with_reducible assumption | omega)) ?_
    refine E_icF rfl (decide_eq_false (fun q => absurd ((nJ_le (by first | decide | with_reducible assumption | omega) (by first | decide | with_reducible assumption | omega)).mp q) (by first | decide | with_reducible assumption | omega))) ?_
    refine E_ci 0 rfl ci0 ?_
    refine E_is rfl (fun lv1 L1_4 kp1 => ?_)
    have L1_0 := kp1 0 _ (nbz rfl) rfl L0
    have L1_1 := kp1 1 _ (nbz rfl) rfl L1
    have L1_2 := kp1 2 _ (nbz rfl) rfl L2
    have L1_3 := kp1 3 _ (nbz rfl) rfl L3
    obtain ⟨y, hy, hly⟩ := leaf_ex R.2.2.2.2.2.1 R.2.2.2.2.2.2.1
    refine rd_s1 (s := 0) (y := y) R.1 hN9 R.2.2.1 hl8 hy hly (fun {x} lv1 hx _ hlx _ K0 K1 K2 K3 K4 => ?_) y lv1 (by first | decide | with_reducible assumption | omega) (Nat.zero_le _) (fun v h1 h2 => by omega) L1_0 L1_1 L1_2 L1_3 L1_4
    have hci := hc i (by first | decide | with_reducible assumption | omega)
    have hcn : l (gn h0 95 i) ≠ 0 := R.2.2.2.2.1 i (Nat.le_refl _) (by first | decide | with_reducible assumption | omega)
    have hc8 := hl8 _ hci
    have hxc : gn h0 95 i ≠ x := fun e => by
      have hoc : ocr (gn h0 95) (gn h0 95 i) (k + 1) i = 1 + ocr (gn h0 95) (gn h0 95 i) k (i + 1) := by
        show (if gn h0 95 i = gn h0 95 i then 1 else 0) + _ = _
        rw [if_pos rfl]
      cases R.2.2.2.1 _ hci with
      | inl q => exact hcn q
      | inr q => rw [e] at q hoc; omega
    refine E_al rfl K0 ?_
    refine E_gr rfl R.1 (q := 96) rfl ?_
    refine E_il rfl K2 ?_
    refine E_il rfl K4 ?_
    refine E_ias rfl R.1 rfl (by first | decide | with_reducible assumption | omega) (by decide) ?_
    have hh1 : HH (pt h 96 ((2 * i)) (nJ x)) := HH_ptn R.1 (bd_u rfl (by first | decide | with_reducible assumption | omega)) (by first | decide | with_reducible assumption | omega) (by first | decide | with_reducible assumption | omega) (by first | decide | with_reducible assumption | omega)
    refine E_al rfl K0 ?_
    refine E_gr rfl hh1 (q := 96) rfl ?_
    refine E_il rfl K2 ?_
    refine E_ci 1 rfl ci1 ?_
    refine E_bin rfl (nJ_add _ _) ?_
    refine E_al rfl K0 ?_
    refine E_gr rfl hh1 (q := 95) rfl ?_
    refine E_il rfl K3 ?_
    refine E_ial rfl hh1 rfl (by first | decide | with_reducible assumption | omega) (by decide) (show gi (pt h 96 ((2 * i)) (nJ x)) 95 i = nJ ((gn h0 95 i)) from by rw [gi_ne (by first | exact gxx rfl | omega), fr_gi R.2.1 (rg_no rfl _)]; exact gi_gn hh0 (bd_u rfl (by first | decide | with_reducible assumption | omega)) (by decide)) ?_
    refine E_ias rfl hh1 rfl (by first | decide | with_reducible assumption | omega) (by decide) ?_
    have hh2 : HH (pt (pt h 96 ((2 * i)) (nJ x)) 96 (((2 * i) + 1)) (nJ ((gn h0 95 i)))) := HH_ptn hh1 (bd_u rfl (by first | decide | with_reducible assumption | omega)) (by first | decide | with_reducible assumption | omega) (by first | decide | with_reducible assumption | omega) (by first | decide | with_reducible assumption | omega)
    refine E_inc rfl K2 (nJ_inc2 _) (fun lv3 L3_2 kp3 => ?_)
    have L3_0 := kp3 0 _ (nbz rfl) rfl K0
    have L3_1 := kp3 1 _ (nbz rfl) rfl K1
    have L3_3 := kp3 3 _ (nbz rfl) rfl K3
    have L3_4 := kp3 4 _ (nbz rfl) rfl K4
    refine E_al rfl L3_0 ?_
    refine E_gr rfl hh2 (q := 94) rfl ?_
    refine E_il rfl L3_4 ?_
    refine E_ci 0 rfl ci0 ?_
    refine E_ias rfl hh2 rfl (by first | decide | with_reducible assumption | omega) (by decide) ?_
    have hh4 : HH (pt (pt (pt h 96 ((2 * i)) (nJ x)) 96 (((2 * i) + 1)) (nJ ((gn h0 95 i)))) 94 x (nJ 0)) := HH_ptn hh2 (bd_u rfl (by first | decide | with_reducible assumption | omega)) (by first | decide | with_reducible assumption | omega) (by first | decide | with_reducible assumption | omega) (by first | decide | with_reducible assumption | omega)
    refine E_al rfl L3_0 ?_
    refine E_gr rfl hh4 (q := 94) rfl ?_
    refine E_al rfl L3_0 ?_
    refine E_gr rfl hh4 (q := 95) rfl ?_
    refine E_il rfl L3_3 ?_
    refine E_ial rfl hh4 rfl (by first | decide | with_reducible assumption | omega) (by decide) (show gi (pt (pt (pt h 96 ((2 * i)) (nJ x)) 96 (((2 * i) + 1)) (nJ ((gn h0 95 i)))) 94 x (nJ 0)) 95 i = nJ ((gn h0 95 i)) from by rw [gi_ne (by first | exact gxx rfl | omega), gi_ne (by first | exact gxx rfl | omega), gi_ne (by first | exact gxx rfl | omega), fr_gi R.2.1 (rg_no rfl _)]; exact gi_gn hh0 (bd_u rfl (by first | decide | with_reducible assumption | omega)) (by decide)) ?_
    refine E_dup2 rfl rfl rfl ?_
    refine E_ial rfl hh4 rfl (by first | decide | with_reducible assumption | omega) (by decide) (show gi (pt (pt (pt h 96 ((2 * i)) (nJ x)) 96 (((2 * i) + 1)) (nJ ((gn h0 95 i)))) 94 x (nJ 0)) 94 ((gn h0 95 i)) = nJ ((l (gn h0 95 i))) from by rw [gi_ne (fun _ => hxc), gi_ne (by first | exact gxx rfl | omega), gi_ne (by first | exact gxx rfl | omega)]; exact R.2.2.1 _ hci) ?_
    refine E_ci 1 rfl ci1 ?_
    refine E_bin rfl (nJ_sub (by first | decide | with_reducible assumption | omega)) ?_
    refine E_ias rfl hh4 rfl (by first | decide | with_reducible assumption | omega) (by decide) ?_
    have hh5 : HH (pt (pt (pt (pt h 96 ((2 * i)) (nJ x)) 96 (((2 * i) + 1)) (nJ ((gn h0 95 i)))) 94 x (nJ 0)) 94 ((gn h0 95 i)) (nJ (((l (gn h0 95 i)) - 1)))) := HH_ptn hh4 (bd_u rfl (by first | decide | with_reducible assumption | omega)) (by first | decide | with_reducible assumption | omega) (by first | decide | with_reducible assumption | omega) (by first | decide | with_reducible assumption | omega)
    refine E_inc rfl L3_3 (nJ_inc _) (fun lv6 L6_3 kp6 => ?_)
    have L6_0 := kp6 0 _ (nbz rfl) rfl L3_0
    have L6_1 := kp6 1 _ (nbz rfl) rfl L3_1
    have L6_2 := kp6 2 _ (nbz rfl) rfl L3_2
    have L6_4 := kp6 4 _ (nbz rfl) rfl L3_4
    refine E_goto rfl ?_
    exact ih lv6 (by first | decide | with_reducible assumption | omega) (RD_step hN9 (by first | decide | with_reducible assumption | omega) hci R hx hlx) L6_0 L6_1 L6_2 L6_3
theorem rd_cnt {h0 : pm_H} {d N : Nat} (hh0 : HH h0) (hN2 : 2 ≤ N) (hN9 : N ≤ 9) (hc : ∀ j, j < N - 2 → gn h0 95 j < N) (k : Nat) : ∀ {h : pm_H} {i : Nat} {l : Nat → Nat} (lv : List (Nat × Value)), i + k = N - 2 → HH h → fr_g DM h0 h → (∀ v, v < N → gi h 94 v = nJ (l v)) → (∀ v, v < N → l v + ocr (gn h0 95) v k i = 1 + ocr (gn h0 95) v (N - 2) 0) → sm l N + k = N + (N - 2) → pm_get lv 0 = some (.ref 77) → pm_get lv 1 = some (.int (nJ N)) → pm_get lv 2 = some (.int (nJ i)) → Ends (pm_at tX9_reads0) (pm_Rt pm_P (d + 2)) (22, lv, [], h, 0, 0) (DQ h0 N) := by
  induction k with
  | zero =>
    intro h i l lv hj hh hfr hl ho hs L0 L1 L2
    have hone : ∀ v, v < N → l v ≠ 0 := fun v hv => by have := ho v hv; have h3 : ocr (gn h0 95) v 0 i = 0 := rfl; omega
    refine E_il rfl L2 ?_
    refine E_il rfl L1 ?_
    refine E_ci 2 rfl ci2 ?_
    refine E_bin rfl (nJ_sub (by first | decide | with_reducible assumption | omega)) ?_
    refine E_icT rfl (decide_eq_true ((nJ_le (by first | decide | with_reducible assumption | omega) (by first | decide | with_reducible assumption | omega)).mpr (by first | decide | with_reducible assumption | omega))) ?_
    refine E_ci 0 rfl ci0 ?_
    refine E_is rfl (fun lv1 L1_2 kp1 => ?_)
    have L1_0 := kp1 0 _ (nbz rfl) rfl L0
    have L1_1 := kp1 1 _ (nbz rfl) rfl L1
    refine E_ci 0 rfl ci0 ?_
    refine E_is rfl (fun lv2 L2_3 kp2 => ?_)
    have L2_0 := kp2 0 _ (nbz rfl) rfl L1_0
    have L2_1 := kp2 1 _ (nbz rfl) rfl L1_1
    have L2_2 := kp2 2 _ (nbz rfl) rfl L1_2
    refine rd_loop hh0 hN2 hN9 hc (N - 2) (i := 0) (l := l) lv2 (by first | decide | with_reducible assumption | omega) ⟨hh, hfr, hl, fun v hv => ?_, fun j h1 h2 => ?_, ?_, ?_, fun q hq => by omega, fun m hm hs => .inr ?_⟩ L2_0 L2_1 L2_2 L2_3
    · right; have := ho v hv; have h3 : ocr (gn h0 95) v 0 i = 0 := rfl; omega
    · have := hone _ (hc j (by first | decide | with_reducible assumption | omega)); omega
    · omega
    · rw [lc_all (fun v hv => hone v hv)]; omega
    · obtain ⟨u, v, u1, v1, u2, v2⟩ := hs; exact ⟨u, v, u1, v1, hone u u1, hone v v1, u2, v2⟩
  | succ k ih =>
    intro h i l lv hj hh hfr hl ho hs L0 L1 L2
    have hl8 : ∀ v, v < N → l v < 100 := fun v hv => by have := ho v hv; have := ocr_le (gn h0 95) v (N - 2) 0; omega
    refine E_il rfl L2 ?_
    refine E_il rfl L1 ?_
    refine E_ci 2 rfl ci2 ?_
    refine E_bin rfl (nJ_sub (by first | decide | with_reducible assumption | omega)) ?_
    refine E_icF rfl (decide_eq_false (fun q => absurd ((nJ_le (by first | decide | with_reducible assumption | omega) (by first | decide | with_reducible assumption | omega)).mp q) (by first | decide | with_reducible assumption | omega))) ?_
    have hci := hc i (by first | decide | with_reducible assumption | omega)
    have hlc := hl8 _ hci
    refine E_al rfl L0 ?_
    refine E_gr rfl hh (q := 94) rfl ?_
    refine E_al rfl L0 ?_
    refine E_gr rfl hh (q := 95) rfl ?_
    refine E_il rfl L2 ?_
    refine E_ial rfl hh rfl (by first | decide | with_reducible assumption | omega) (by decide) (show gi h 95 i = nJ ((gn h0 95 i)) from by rw [fr_gi hfr (rg_no rfl _)]; exact gi_gn hh0 (bd_u rfl (by first | decide | with_reducible assumption | omega)) (by decide)) ?_
    refine E_dup2 rfl rfl rfl ?_
    refine E_ial rfl hh rfl (by first | decide | with_reducible assumption | omega) (by decide) (show gi h 94 ((gn h0 95 i)) = nJ ((l (gn h0 95 i))) from hl _ hci) ?_
    refine E_ci 1 rfl ci1 ?_
    refine E_bin rfl (nJ_add _ _) ?_
    refine E_ias rfl hh rfl (by first | decide | with_reducible assumption | omega) (by decide) ?_
    have hh1 : HH (pt h 94 ((gn h0 95 i)) (nJ (((l (gn h0 95 i)) + 1)))) := HH_ptn hh (bd_u rfl (by first | decide | with_reducible assumption | omega)) (by first | decide | with_reducible assumption | omega) (by first | decide | with_reducible assumption | omega) (by first | decide | with_reducible assumption | omega)
    refine E_inc rfl L2 (nJ_inc _) (fun lv2 L2_2 kp2 => ?_)
    have L2_0 := kp2 0 _ (nbz rfl) rfl L0
    have L2_1 := kp2 1 _ (nbz rfl) rfl L1
    refine E_goto rfl ?_
    refine ih (l := fu l (gn h0 95 i) (l (gn h0 95 i) + 1)) lv2 (by first | decide | with_reducible assumption | omega) hh1 (fr_ptr (l := 0) (u := 8) rfl (by first | decide | with_reducible assumption | omega) (by first | decide | with_reducible assumption | omega) hfr) (fun v hv => ?_) (fun v hv => ?_) ?_ L2_0 L2_1 L2_2
    · by_cases e : v = gn h0 95 i
      · rw [e, fu_same, gi_pt hh (bd_u rfl (by first | decide | with_reducible assumption | omega)) (ai_lo _) (ai_hi _)]
      · rw [fu_ne e, gi_ne (fun _ => e)]; exact hl v hv
    · have h1 := ho v hv
      have h2 : ocr (gn h0 95) v (k + 1) i = (if gn h0 95 i = v then 1 else 0) + ocr (gn h0 95) v k (i + 1) := rfl
      by_cases e : v = gn h0 95 i
      · rw [if_pos e.symm] at h2; rw [e, fu_same]; rw [e] at h1 h2; omega
      · rw [if_neg (fun q => e q.symm)] at h2; rw [fu_ne e]; omega
    · have := sm_fu (l := l) (v := gn h0 95 i) (x := l (gn h0 95 i) + 1) (n := N) hci
      omega
theorem rd_one {h0 : pm_H} {d N : Nat} (hh0 : HH h0) (hN2 : 2 ≤ N) (hN9 : N ≤ 9) (hc : ∀ j, j < N - 2 → gn h0 95 j < N) (k : Nat) : ∀ {h : pm_H} {i : Nat} (lv : List (Nat × Value)), i + k = N → HH h → fr_g DM h0 h → (∀ v, v < i → gi h 94 v = nJ 1) → pm_get lv 0 = some (.ref 77) → pm_get lv 1 = some (.int (nJ N)) → pm_get lv 2 = some (.int (nJ i)) → Ends (pm_at tX9_reads0) (pm_Rt pm_P (d + 2)) (2, lv, [], h, 0, 0) (DQ h0 N) := by
  induction k with
  | zero =>
    intro h i lv hj hh hfr hl L0 L1 L2
    refine E_il rfl L2 ?_
    refine E_il rfl L1 ?_
    refine E_icT rfl (decide_eq_true ((nJ_le (by first | decide | with_reducible assumption | omega) (by first | decide | with_reducible assumption | omega)).mpr (by first | decide | with_reducible assumption | omega))) ?_
    refine E_ci 0 rfl ci0 ?_
    refine E_is rfl (fun lv1 L1_2 kp1 => ?_)
    have L1_0 := kp1 0 _ (nbz rfl) rfl L0
    have L1_1 := kp1 1 _ (nbz rfl) rfl L1
    exact rd_cnt hh0 hN2 hN9 hc (N - 2) (i := 0) (l := fun _ => 1) lv1 (by first | decide | with_reducible assumption | omega) hh hfr (fun v hv => hl v (by first | decide | with_reducible assumption | omega)) (fun v hv => rfl) (by rw [sm_one (fun v hv => rfl)]) L1_0 L1_1 L1_2
  | succ k ih =>
    intro h i lv hj hh hfr hl L0 L1 L2
    refine E_il rfl L2 ?_
    refine E_il rfl L1 ?_
    refine E_icF rfl (decide_eq_false (fun q => absurd ((nJ_le (by first | decide | with_reducible assumption | omega) (by first | decide | with_reducible assumption | omega)).mp q) (by first | decide | with_reducible assumption | omega))) ?_
    refine E_al rfl L0 ?_
    refine E_gr rfl hh (q := 94) rfl ?_
    refine E_il rfl L2 ?_
    refine E_ci 1 rfl ci1 ?_
    refine E_ias rfl hh rfl (by first | decide | with_reducible assumption | omega) (by decide) ?_
    have hh1 : HH (pt h 94 i (nJ 1)) := HH_ptn hh (bd_u rfl (by first | decide | with_reducible assumption | omega)) (by first | decide | with_reducible assumption | omega) (by first | decide | with_reducible assumption | omega) (by first | decide | with_reducible assumption | omega)
    refine E_inc rfl L2 (nJ_inc _) (fun lv2 L2_2 kp2 => ?_)
    have L2_0 := kp2 0 _ (nbz rfl) rfl L0
    have L2_1 := kp2 1 _ (nbz rfl) rfl L1
    refine E_goto rfl ?_
    refine ih lv2 (by first | decide | with_reducible assumption | omega) hh1 (fr_ptr (l := 0) (u := 8) rfl (by first | decide | with_reducible assumption | omega) (by first | decide | with_reducible assumption | omega) hfr) (fun v hv => ?_) L2_0 L2_1 L2_2
    by_cases e : v = i
    · rw [e, gi_pt hh (bd_u rfl (by first | decide | with_reducible assumption | omega)) (ai_lo _) (ai_hi _)]
    · rw [gi_ne (fun _ => e)]; exact hl v (by first | decide | with_reducible assumption | omega)
theorem sp_reads0 {h0 : pm_H} {d N : Nat} (hh : HH h0) (hN2 : 2 ≤ N) (hN9 : N ≤ 9) (hc : ∀ j, j < N - 2 → gn h0 95 j < N) : Sp (d + 3) 330 h0 [.ref 77, .int (nJ N)] (DQ h0 N) := by
  refine Sp_of aiX9_reads0 rfl rfl rfl ?_
  refine E_ci 0 rfl ci0 ?_
  refine E_is rfl (fun lv1 L1_2 kp1 => ?_)
  have L1_0 := kp1 0 _ (nbz rfl) rfl (show pm_get (lv_args 0 [.ref 77, .int (nJ N)]) 0 = _ from rfl)
  have L1_1 := kp1 1 _ (nbz rfl) rfl (show pm_get (lv_args 0 [.ref 77, .int (nJ N)]) 1 = _ from rfl)
  exact rd_one hh hN2 hN9 hc N (i := 0) lv1 (by first | decide | with_reducible assumption | omega) hh (fr_rf _ _) (fun v hv => absurd hv (Nat.not_lt_zero _)) L1_0 L1_1 L1_2
end
section
/-! by hand: pairs turned, wishes laid (written by gen_t8.py) -/
noncomputable def TM : List Rng := [(77, 0, 0), (77, 22, 23), (77, 27, 27), (77, 35, 36), (77, 39, 39), (77, 41, 43), (89, 0, 7), (90, 0, 9), (91, 0, 7), (92, 0, 8), (93, 0, 8), (94, 0, 8), (95, 0, 7), (96, 0, 17), (97, 0, 7), (98, 0, 8), (99, 0, 4), (100, 0, 5), (101, 0, 9), (102, 0, 71)]
noncomputable def TQ (h0 h' : pm_H) (r : Option Value) : Prop := HH h' ∧ fr_g TM h0 h' ∧ ∃ x : Int32, r = some (.int x)
/-- of a row: no more cars than places, every car wants a place, acts speak of places and of cars -/
noncomputable def RI (r : Nat) (h : pm_H) : Prop := gn h 84 (6 * r + 3) ≤ gn h 84 (6 * r) ∧ (∀ c, c < gn h 84 (6 * r + 3) → 1 ≤ gn h 85 (16 * r + 2 * c)) ∧ ∀ k, k < gn h 84 (6 * r + 5) → (gn h 87 (60 * r + 3 * k) = 0 → 1 ≤ gn h 87 (60 * r + 3 * k + 2)) ∧ (¬ gn h 87 (60 * r + 3 * k) = 0 → gn h 87 (60 * r + 3 * k + 1) < gn h 84 (6 * r + 3) ∧ gn h 87 (60 * r + 3 * k + 2) < gn h 84 (6 * r + 3))
theorem RI_eq {r : Nat} {h h' : pm_H} (hR : RI r h) (h1 : ∀ k, gn h' 84 k = gn h 84 k) (h2 : ∀ c, gn h' 85 (16 * r + 2 * c) = gn h 85 (16 * r + 2 * c)) (h3 : ∀ k, gn h' 87 k = gn h 87 k) : RI r h' := by
  unfold RI at hR ⊢
  simp only [h1, h2, h3]
  exact hR
theorem RI_fr {r : Nat} {M : List Rng} {h h' : pm_H} (hR : RI r h) (hM : M.all (fun r => !(Nat.beq r.1 84) && (!(Nat.beq r.1 85) && !(Nat.beq r.1 87))) = true) (hf : fr_g M h h') : RI r h' := by
  have hm : ∀ a, (a = 84 ∨ a = 85 ∨ a = 87) → ∀ k, gn h' a k = gn h a k := fun a ha k => fr_gn hf (rg_no (List.all_eq_true.mpr fun q hq => by
    have := List.all_eq_true.mp hM q hq
    simp only [Bool.and_eq_true] at this
    rcases ha with rfl | rfl | rfl
    · exact this.1
    · exact this.2.1
    · exact this.2.2) k)
  exact RI_eq hR (hm 84 (.inl rfl)) (fun c => hm 85 (.inr (.inl rfl)) _) (hm 87 (.inr (.inr rfl)))
theorem nJ_in {a : Nat} {lo hi : Int} (h1 : lo ≤ (a : Int)) (h2 : (a : Int) ≤ hi ∧ a < 2147483648) : cv_g (cI lo hi) (.int (nJ a)) := by
  show lo ≤ (nJ a).toInt ∧ (nJ a).toInt ≤ hi
  rw [nJ_toInt h2.2]
  exact ⟨h1, h2.1⟩
theorem rv_int295 {C : Cs} {h : pm_H} {r : Option Value} (hC : C ∈ S295.2.2.2.2.2) (hv : rv_g h C.2.2.2 r) : ∃ x : Int32, r = some (.int x) := by
  have e := List.mem_singleton.mp hC
  subst e
  cases r with
  | none => exact hv.elim
  | some v => cases v with
    | int x => exact ⟨x, rfl⟩
    | _ => exact hv.elim
theorem bd_pat {a k len t : Nat} {p : List (Int × Int)} {q : Int × Int} (hc : hsF a = some (.inl (t, len, p))) (hk : k < len) (hp : p[k % p.length]? = some q) : bd a k = some q := by
  unfold bd
  rw [hc]
  dsimp only
  rw [show Nat.blt k len = true from Nat.ble_eq_true_of_le hk, cond_true]
  exact hp
theorem bd_85 {k : Nat} (hk : k < 80) (e : k % 2 = 0) : bd 85 k = some (0, 8) := bd_pat (p := [(0, 8), (0, 99)]) rfl hk (by show [(0, 8), (0, 99)][k % 2]? = _; rw [e]; rfl)
theorem bd_87a {k : Nat} (hk : k < 300) (e : k % 3 = 0) : bd 87 k = some (0, 1) := bd_pat (p := [(0, 1), (0, 7), (0, 8)]) rfl hk (by show [(0, 1), (0, 7), (0, 8)][k % 3]? = _; rw [e]; rfl)
theorem bd_87b {k : Nat} (hk : k < 300) (e : k % 3 = 1) : bd 87 k = some (0, 7) := bd_pat (p := [(0, 1), (0, 7), (0, 8)]) rfl hk (by show [(0, 1), (0, 7), (0, 8)][k % 3]? = _; rw [e]; rfl)
theorem bd_87c {k : Nat} (hk : k < 300) (e : k % 3 = 2) : bd 87 k = some (0, 8) := bd_pat (p := [(0, 1), (0, 7), (0, 8)]) rfl hk (by show [(0, 1), (0, 7), (0, 8)][k % 3]? = _; rw [e]; rfl)
theorem ti_in {h : pm_H} {d m k : Nat} (hh : HH h) (hm : m ≤ 8) (hk : k ≤ m) (K : ∀ {n : Int32} (lv : List (Nat × Value)), pm_get lv 0 = some (.ref 77) → pm_get lv 1 = some (.int (nJ m)) → pm_get lv 2 = some (.int n) → pm_get lv 3 = some (.int (nJ (k + 1))) → Ends (pm_at tX9_turnedIn) (pm_Rt pm_P d) (4, lv, [], h, 0, 0) (fun h' r => h' = h ∧ ∃ x : Int32, r = some (.int x))) (e : Nat) : ∀ {n : Int32} {u : Nat} (lv : List (Nat × Value)), u ≤ 8 → dep (gn h 92) e u → pm_get lv 0 = some (.ref 77) → pm_get lv 1 = some (.int (nJ m)) → pm_get lv 2 = some (.int n) → pm_get lv 3 = some (.int (nJ k)) → pm_get lv 4 = some (.int (nJ u)) → Ends (pm_at tX9_turnedIn) (pm_Rt pm_P d) (17, lv, [], h, 0, 0) (fun h' r => h' = h ∧ ∃ x : Int32, r = some (.int x)) := by
  induction e with
  | zero =>
    intro n u lv hu hd L0 L1 L2 L3 L4
    have hd : u = 0 := hd
    refine E_il rfl L4 ?_
    refine E_ifT rfl (decide_eq_true ((nJ_eq0 (by first | decide | with_reducible assumption | omega)).mpr hd)) ?_
    refine E_inc rfl L3 (nJ_inc _) (fun lv1 L1_3 kp1 => ?_)
    have L1_0 := kp1 0 _ (nbz rfl) rfl L0
    have L1_1 := kp1 1 _ (nbz rfl) rfl L1
    have L1_2 := kp1 2 _ (nbz rfl) rfl L2
    have L1_4 := kp1 4 _ (nbz rfl) rfl L4
    refine E_goto rfl ?_
    exact K lv1 L1_0 L1_1 L1_2 L1_3
  | succ e ih =>
    intro n u lv hu hd L0 L1 L2 L3 L4
    refine E_il rfl L4 ?_
    by_cases hb1 : u = 0
    · refine E_ifT rfl (decide_eq_true ((nJ_eq0 (by first | decide | with_reducible assumption | omega)).mpr hb1)) ?_
      refine E_inc rfl L3 (nJ_inc _) (fun lv2 L2_3 kp2 => ?_)
      have L2_0 := kp2 0 _ (nbz rfl) rfl L0
      have L2_1 := kp2 1 _ (nbz rfl) rfl L1
      have L2_2 := kp2 2 _ (nbz rfl) rfl L2
      have L2_4 := kp2 4 _ (nbz rfl) rfl L4
      refine E_goto rfl ?_
      exact K lv2 L2_0 L2_1 L2_2 L2_3
    · refine E_ifF rfl (decide_eq_false (fun q => hb1 ((nJ_eq0 (by first | decide | with_reducible assumption | omega)).mp q))) ?_
      refine E_il rfl L2 ?_
      refine E_il rfl L3 ?_
      refine E_il rfl L4 ?_
      by_cases hb3 : u ≤ k
      · refine E_icT rfl (decide_eq_true ((nJ_le (by first | decide | with_reducible assumption | omega) (by first | decide | with_reducible assumption | omega)).mpr hb3)) ?_
        refine E_ci 0 rfl ci0 ?_
        refine E_bin rfl rfl ?_
        refine E_is rfl (fun lv4 L4_2 kp4 => ?_)
        have L4_0 := kp4 0 _ (nbz rfl) rfl L0
        have L4_1 := kp4 1 _ (nbz rfl) rfl L1
        have L4_3 := kp4 3 _ (nbz rfl) rfl L3
        have L4_4 := kp4 4 _ (nbz rfl) rfl L4
        refine E_al rfl L4_0 ?_
        refine E_gr rfl hh (q := 92) rfl ?_
        refine E_il rfl L4_4 ?_
        have b5 : gn h 92 u ≤ 8 := gn_hi hh (bd_u rfl (by first | decide | with_reducible assumption | omega)) (by decide)
        refine E_ial rfl hh rfl (by first | decide | with_reducible assumption | omega) (by decide) (gi_gn hh (bd_u rfl (by first | decide | with_reducible assumption | omega)) (by decide)) ?_
        refine E_is rfl (fun lv6 L6_4 kp6 => ?_)
        have L6_0 := kp6 0 _ (nbz rfl) rfl L4_0
        have L6_1 := kp6 1 _ (nbz rfl) rfl L4_1
        have L6_2 := kp6 2 _ (nbz rfl) rfl L4_2
        have L6_3 := kp6 3 _ (nbz rfl) rfl L4_3
        refine E_goto rfl ?_
        refine ih lv6 (by first | decide | with_reducible assumption | omega) ?_ L6_0 L6_1 L6_2 L6_3 L6_4
        cases hd with
        | inl q => exact absurd q hb1
        | inr q => exact q
      · refine E_icF rfl (decide_eq_false (fun q => hb3 ((nJ_le (by first | decide | with_reducible assumption | omega) (by first | decide | with_reducible assumption | omega)).mp q))) ?_
        refine E_ci 1 rfl ci1 ?_
        refine E_goto rfl ?_
        refine E_bin rfl rfl ?_
        refine E_is rfl (fun lv7 L7_2 kp7 => ?_)
        have L7_0 := kp7 0 _ (nbz rfl) rfl L0
        have L7_1 := kp7 1 _ (nbz rfl) rfl L1
        have L7_3 := kp7 3 _ (nbz rfl) rfl L3
        have L7_4 := kp7 4 _ (nbz rfl) rfl L4
        refine E_al rfl L7_0 ?_
        refine E_gr rfl hh (q := 92) rfl ?_
        refine E_il rfl L7_4 ?_
        have b8 : gn h 92 u ≤ 8 := gn_hi hh (bd_u rfl (by first | decide | with_reducible assumption | omega)) (by decide)
        refine E_ial rfl hh rfl (by first | decide | with_reducible assumption | omega) (by decide) (gi_gn hh (bd_u rfl (by first | decide | with_reducible assumption | omega)) (by decide)) ?_
        refine E_is rfl (fun lv9 L9_4 kp9 => ?_)
        have L9_0 := kp9 0 _ (nbz rfl) rfl L7_0
        have L9_1 := kp9 1 _ (nbz rfl) rfl L7_1
        have L9_2 := kp9 2 _ (nbz rfl) rfl L7_2
        have L9_3 := kp9 3 _ (nbz rfl) rfl L7_3
        refine E_goto rfl ?_
        refine ih lv9 (by first | decide | with_reducible assumption | omega) ?_ L9_0 L9_1 L9_2 L9_3 L9_4
        cases hd with
        | inl q => exact absurd q hb1
        | inr q => exact q
theorem ti_out {h : pm_H} {d m : Nat} (hh : HH h) (hm : m ≤ 8) (hD : ∀ v, 1 ≤ v → v ≤ m → dep (hg h) 8 v) (j : Nat) : ∀ {n : Int32} {k : Nat} (lv : List (Nat × Value)), k + j = m + 1 → 1 ≤ k → pm_get lv 0 = some (.ref 77) → pm_get lv 1 = some (.int (nJ m)) → pm_get lv 2 = some (.int n) → pm_get lv 3 = some (.int (nJ k)) → Ends (pm_at tX9_turnedIn) (pm_Rt pm_P d) (4, lv, [], h, 0, 0) (fun h' r => h' = h ∧ ∃ x : Int32, r = some (.int x)) := by
  induction j with
  | zero =>
    intro n k lv hj hk L0 L1 L2 L3
    refine E_il rfl L3 ?_
    refine E_il rfl L1 ?_
    refine E_icT rfl (decide_eq_true ((nJ_lt (by first | decide | with_reducible assumption | omega) (by first | decide | with_reducible assumption | omega)).mpr (by first | decide | with_reducible assumption | omega))) ?_
    refine E_il rfl L2 ?_
    exact E_rti rfl ⟨rfl, _, rfl⟩
  | succ j ih =>
    intro n k lv hj hk L0 L1 L2 L3
    refine E_il rfl L3 ?_
    refine E_il rfl L1 ?_
    refine E_icF rfl (decide_eq_false (fun q => absurd ((nJ_lt (by first | decide | with_reducible assumption | omega) (by first | decide | with_reducible assumption | omega)).mp q) (by first | decide | with_reducible assumption | omega))) ?_
    refine E_al rfl L0 ?_
    refine E_gr rfl hh (q := 92) rfl ?_
    refine E_il rfl L3 ?_
    have b1 : gn h 92 k ≤ 8 := gn_hi hh (bd_u rfl (by first | decide | with_reducible assumption | omega)) (by decide)
    refine E_ial rfl hh rfl (by first | decide | with_reducible assumption | omega) (by decide) (gi_gn hh (bd_u rfl (by first | decide | with_reducible assumption | omega)) (by decide)) ?_
    refine E_is rfl (fun lv2 L2_4 kp2 => ?_)
    have L2_0 := kp2 0 _ (nbz rfl) rfl L0
    have L2_1 := kp2 1 _ (nbz rfl) rfl L1
    have L2_2 := kp2 2 _ (nbz rfl) rfl L2
    have L2_3 := kp2 3 _ (nbz rfl) rfl L3
    have hdk := hD k (by first | decide | with_reducible assumption | omega) (by first | decide | with_reducible assumption | omega)
    rw [hg_gn] at hdk
    refine ti_in hh hm (by first | decide | with_reducible assumption | omega) (fun lv' a b c e => ih lv' (by first | decide | with_reducible assumption | omega) (by first | decide | with_reducible assumption | omega) a b c e) 8 lv2 (by first | decide | with_reducible assumption | omega) ?_ L2_0 L2_1 L2_2 L2_3 L2_4
    cases hdk with
    | inl q => omega
    | inr q => exact dep_up1 q
theorem sp_turnedIn {h : pm_H} {d m : Nat} (hh : HH h) (hm : m ≤ 8) (hD : ∀ v, 1 ≤ v → v ≤ m → dep (hg h) 8 v) : Sp (d + 1) 365 h [.ref 77, .int (nJ m)] (fun h' r => h' = h ∧ ∃ x : Int32, r = some (.int x)) := by
  refine Sp_of aiX9_turnedIn rfl rfl rfl ?_
  refine E_ci 0 rfl ci0 ?_
  refine E_is rfl (fun lv1 L1_2 kp1 => ?_)
  have L1_0 := kp1 0 _ (nbz rfl) rfl (show pm_get (lv_args 0 [.ref 77, .int (nJ m)]) 0 = _ from rfl)
  have L1_1 := kp1 1 _ (nbz rfl) rfl (show pm_get (lv_args 0 [.ref 77, .int (nJ m)]) 1 = _ from rfl)
  refine E_ci 1 rfl ci1 ?_
  refine E_is rfl (fun lv2 L2_3 kp2 => ?_)
  have L2_0 := kp2 0 _ (nbz rfl) rfl L1_0
  have L2_1 := kp2 1 _ (nbz rfl) rfl L1_1
  have L2_2 := kp2 2 _ (nbz rfl) rfl L1_2
  exact ti_out hh hm hD m (k := 1) lv2 (by first | decide | with_reducible assumption | omega) (by first | decide | with_reducible assumption | omega) L2_0 L2_1 L2_2 L2_3
theorem sp_trade {h : pm_H} {d a b : Nat} (hh : HH h) (ha : a < 8) (hb : b < 8) : Sp (d + 1) 361 h [.ref 77, .int (nJ a), .int (nJ b)] (fun h' r => r = none ∧ HH h' ∧ h' = pt (pt h 89 a (nJ (gn h 89 b))) 89 b (nJ (gn h 89 a))) := by
  have hb8 : gn h 89 b ≤ 8 := gn_hi hh (bd_u rfl (by first | decide | with_reducible assumption | omega)) (by decide)
  refine Sp_of aiX9_trade rfl rfl rfl ?_
  refine E_al rfl (show pm_get (lv_args 0 [.ref 77, .int (nJ a), .int (nJ b)]) 0 = _ from rfl) ?_
  refine E_gr rfl hh (q := 89) rfl ?_
  refine E_il rfl (show pm_get (lv_args 0 [.ref 77, .int (nJ a), .int (nJ b)]) 1 = _ from rfl) ?_
  have b1 : gn h 89 a ≤ 8 := gn_hi hh (bd_u rfl (by first | decide | with_reducible assumption | omega)) (by decide)
  refine E_ial rfl hh rfl (by first | decide | with_reducible assumption | omega) (by decide) (gi_gn hh (bd_u rfl (by first | decide | with_reducible assumption | omega)) (by decide)) ?_
  refine E_is rfl (fun lv2 L2_3 kp2 => ?_)
  have L2_0 := kp2 0 _ (nbz rfl) rfl (show pm_get (lv_args 0 [.ref 77, .int (nJ a), .int (nJ b)]) 0 = _ from rfl)
  have L2_1 := kp2 1 _ (nbz rfl) rfl (show pm_get (lv_args 0 [.ref 77, .int (nJ a), .int (nJ b)]) 1 = _ from rfl)
  have L2_2 := kp2 2 _ (nbz rfl) rfl (show pm_get (lv_args 0 [.ref 77, .int (nJ a), .int (nJ b)]) 2 = _ from rfl)
  refine E_al rfl L2_0 ?_
  refine E_gr rfl hh (q := 89) rfl ?_
  refine E_il rfl L2_1 ?_
  refine E_al rfl L2_0 ?_
  refine E_gr rfl hh (q := 89) rfl ?_
  refine E_il rfl L2_2 ?_
  refine E_ial rfl hh rfl (by first | decide | with_reducible assumption | omega) (by decide) (show gi h 89 b = nJ ((gn h 89 b)) from gi_gn hh (bd_u rfl (by first | decide | with_reducible assumption | omega)) (by decide)) ?_
  refine E_ias rfl hh rfl (by first | decide | with_reducible assumption | omega) (by decide) ?_
  have hh3 : HH (pt h 89 a (nJ ((gn h 89 b)))) := HH_ptn hh (bd_u rfl (by first | decide | with_reducible assumption | omega)) (by first | decide | with_reducible assumption | omega) (by first | decide | with_reducible assumption | omega) (by first | decide | with_reducible assumption | omega)
  refine E_al rfl L2_0 ?_
  refine E_gr rfl hh3 (q := 89) rfl ?_
  refine E_il rfl L2_2 ?_
  refine E_il rfl L2_3 ?_
  refine E_ias rfl hh3 rfl (by first | decide | with_reducible assumption | omega) (by decide) ?_
  have hh4 : HH (pt (pt h 89 a (nJ ((gn h 89 b)))) 89 b (nJ ((gn h 89 a)))) := HH_ptn hh3 (bd_u rfl (by first | decide | with_reducible assumption | omega)) (by first | decide | with_reducible assumption | omega) (by first | decide | with_reducible assumption | omega) (by first | decide | with_reducible assumption | omega)
  exact E_ret rfl ⟨rfl, hh4, rfl⟩
noncomputable def YM : List Rng := [(77, 22, 23), (89, 0, 7)]
theorem ly_two {h0 : pm_H} {d : Nat} (hh0 : HH h0) (hR : RI 0 h0) (j : Nat) : ∀ {h : pm_H} {k : Nat} (lv : List (Nat × Value)), k + j = gn h0 84 5 → HH h → fr_g YM h0 h → (∀ c, c < gn h0 84 3 → 1 ≤ gn h 89 c) → pm_get lv 0 = some (.ref 77) → pm_get lv 1 = some (.int (nJ k)) → Ends (pm_at tX9_lays) (pm_Rt pm_P (d + 1)) (54, lv, [], h, 0, 0) (fun h' r => r = none ∧ HH h' ∧ fr_g YM h0 h' ∧ ∀ c, c < gn h' 84 3 → 1 ≤ gn h' 89 c) := by
  have hK : gn h0 84 5 ≤ 20 := gn_hi hh0 rfl (by decide)
  have hC : gn h0 84 3 ≤ 8 := gn_hi hh0 rfl (by decide)
  induction j with
  | zero =>
    intro h k lv hj hh hfr hw L0 L1
    have hce : gn h 84 3 = gn h0 84 3 := fr_gn hfr (rg_no rfl _)
    refine E_il rfl L1 ?_
    refine E_al rfl L0 ?_
    refine E_gr rfl hh (q := 84) rfl ?_
    refine E_ci 5 rfl ci5 ?_
    refine E_ial rfl hh rfl (by first | decide | with_reducible assumption | omega) (by decide) (show gi h 84 5 = nJ ((gn h0 84 5)) from by rw [fr_gi hfr (rg_no rfl _)]; exact gi_gn hh0 rfl (by decide)) ?_
    refine E_icT rfl (decide_eq_true ((nJ_le (by first | decide | with_reducible assumption | omega) (by first | decide | with_reducible assumption | omega)).mpr (by first | decide | with_reducible assumption | omega))) ?_
    exact E_ret rfl ⟨rfl, hh, hfr, fun c hc => hw c (by rw [← hce]; exact hc)⟩
  | succ j ih =>
    intro h k lv hj hh hfr hw L0 L1
    have hce : gn h 84 3 = gn h0 84 3 := fr_gn hfr (rg_no rfl _)
    refine E_il rfl L1 ?_
    refine E_al rfl L0 ?_
    refine E_gr rfl hh (q := 84) rfl ?_
    refine E_ci 5 rfl ci5 ?_
    refine E_ial rfl hh rfl (by first | decide | with_reducible assumption | omega) (by decide) (show gi h 84 5 = nJ ((gn h0 84 5)) from by rw [fr_gi hfr (rg_no rfl _)]; exact gi_gn hh0 rfl (by decide)) ?_
    refine E_icF rfl (decide_eq_false (fun q => absurd ((nJ_le (by first | decide | with_reducible assumption | omega) (by first | decide | with_reducible assumption | omega)).mp q) (by first | decide | with_reducible assumption | omega))) ?_
    have hact : (gn h0 87 (3 * k) = 0 → 1 ≤ gn h0 87 (3 * k + 2)) ∧ (¬ gn h0 87 (3 * k) = 0 → gn h0 87 (3 * k + 1) < gn h0 84 3 ∧ gn h0 87 (3 * k + 2) < gn h0 84 3) := by have := hR.2.2 k (show k < gn h0 84 5 by omega); simp only [Nat.mul_zero, Nat.zero_add] at this; exact this
    have ha1 : gn h0 87 (3 * k + 1) ≤ 7 := gn_hi hh0 (bd_87b (by first | decide | with_reducible assumption | omega) (by first | decide | with_reducible assumption | omega)) (by decide)
    have ha2 : gn h0 87 (3 * k + 2) ≤ 8 := gn_hi hh0 (bd_87c (by first | decide | with_reducible assumption | omega) (by first | decide | with_reducible assumption | omega)) (by decide)
    have ha0 : gn h0 87 (3 * k) ≤ 1 := gn_hi hh0 (bd_87a (by first | decide | with_reducible assumption | omega) (by first | decide | with_reducible assumption | omega)) (by decide)
    refine E_al rfl L0 ?_
    refine E_gr rfl hh (q := 87) rfl ?_
    refine E_ci 3 rfl ci3 ?_
    refine E_il rfl L1 ?_
    refine E_bin rfl (nJ_mul _ _) ?_
    refine E_ci 1 rfl ci1 ?_
    refine E_bin rfl (nJ_add _ _) ?_
    refine E_ial rfl hh rfl (by first | decide | with_reducible assumption | omega) (by decide) (show gi h 87 (((3 * k) + 1)) = nJ ((gn h0 87 (3 * k + 1))) from by rw [fr_gi hfr (rg_no rfl _)]; exact gi_gn hh0 (bd_87b (by first | decide | with_reducible assumption | omega) (by first | decide | with_reducible assumption | omega)) (by decide)) ?_
    refine E_is rfl (fun lv1 L1_2 kp1 => ?_)
    have L1_0 := kp1 0 _ (nbz rfl) rfl L0
    have L1_1 := kp1 1 _ (nbz rfl) rfl L1
    refine E_al rfl L1_0 ?_
    refine E_gr rfl hh (q := 87) rfl ?_
    refine E_ci 3 rfl ci3 ?_
    refine E_il rfl L1_1 ?_
    refine E_bin rfl (nJ_mul _ _) ?_
    refine E_ci 2 rfl ci2 ?_
    refine E_bin rfl (nJ_add _ _) ?_
    refine E_ial rfl hh rfl (by first | decide | with_reducible assumption | omega) (by decide) (show gi h 87 (((3 * k) + 2)) = nJ ((gn h0 87 (3 * k + 2))) from by rw [fr_gi hfr (rg_no rfl _)]; exact gi_gn hh0 (bd_87c (by first | decide | with_reducible assumption | omega) (by first | decide | with_reducible assumption | omega)) (by decide)) ?_
    refine E_is rfl (fun lv2 L2_3 kp2 => ?_)
    have L2_0 := kp2 0 _ (nbz rfl) rfl L1_0
    have L2_1 := kp2 1 _ (nbz rfl) rfl L1_1
    have L2_2 := kp2 2 _ (nbz rfl) rfl L1_2
    refine E_al rfl L2_0 ?_
    refine E_gr rfl hh (q := 87) rfl ?_
    refine E_ci 3 rfl ci3 ?_
    refine E_il rfl L2_1 ?_
    refine E_bin rfl (nJ_mul _ _) ?_
    refine E_ial rfl hh rfl (by first | decide | with_reducible assumption | omega) (by decide) (show gi h 87 ((3 * k)) = nJ ((gn h0 87 (3 * k))) from by rw [fr_gi hfr (rg_no rfl _)]; exact gi_gn hh0 (bd_87a (by first | decide | with_reducible assumption | omega) (by first | decide | with_reducible assumption | omega)) (by decide)) ?_
    by_cases hb3 : ¬ (gn h0 87 (3 * k)) = 0
    · refine E_ifT rfl (decide_eq_true (fun q => hb3 ((nJ_eq0 (by first | decide | with_reducible assumption | omega)).mp q))) ?_
      refine E_al rfl L2_0 ?_
      refine E_il rfl L2_2 ?_
      refine E_il rfl L2_3 ?_
      have hA := hact.2 (by first | decide | with_reducible assumption | omega)
      refine E_call rfl (sp_trade hh (by first | decide | with_reducible assumption | omega) (by first | decide | with_reducible assumption | omega)) (chk77 hh rfl rfl (by show 0 ≤ 8; decide)) (fun hq rq => ?_)
      rintro ⟨e9, hhq, he9⟩
      rw [e9]
      show Ends _ _ (113, lv2, [], hq, 0, 0) _
      refine E_inc rfl L2_1 (nJ_inc _) (fun lv4 L4_1 kp4 => ?_)
      have L4_0 := kp4 0 _ (nbz rfl) rfl L2_0
      have L4_2 := kp4 2 _ (nbz rfl) rfl L2_2
      have L4_3 := kp4 3 _ (nbz rfl) rfl L2_3
      refine E_goto rfl ?_
      refine ih lv4 (by first | decide | with_reducible assumption | omega) hhq (he9 ▸ fr_ptr (l := 0) (u := 7) rfl (by first | decide | with_reducible assumption | omega) (by first | decide | with_reducible assumption | omega) (fr_ptr (l := 0) (u := 7) rfl (by first | decide | with_reducible assumption | omega) (by first | decide | with_reducible assumption | omega) hfr)) (fun c hc => ?_) L4_0 L4_1
      have hx8 : gn h 89 (gn h0 87 (3 * k + 2)) ≤ 8 := gn_hi hh (bd_u rfl (by first | decide | with_reducible assumption | omega)) (by decide)
      have hy8 : gn h 89 (gn h0 87 (3 * k + 1)) ≤ 8 := gn_hi hh (bd_u rfl (by first | decide | with_reducible assumption | omega)) (by decide)
      have hh5 : HH (pt h 89 (gn h0 87 (3 * k + 1)) (nJ (gn h 89 (gn h0 87 (3 * k + 2))))) := HH_ptn hh (bd_u rfl (by first | decide | with_reducible assumption | omega)) (by first | decide | with_reducible assumption | omega) (by first | decide | with_reducible assumption | omega) (by first | decide | with_reducible assumption | omega)
      rw [he9]
      by_cases e : c = gn h0 87 (3 * k + 2)
      · rw [e, gn_ptn hh5 (bd_u rfl (by first | decide | with_reducible assumption | omega)) (by first | decide | with_reducible assumption | omega) (by first | decide | with_reducible assumption | omega) (by first | decide | with_reducible assumption | omega)]; exact hw _ (by first | decide | with_reducible assumption | omega)
      · rw [gn_ne (fun _ => e)]
        by_cases e2 : c = gn h0 87 (3 * k + 1)
        · rw [e2, gn_ptn hh (bd_u rfl (by first | decide | with_reducible assumption | omega)) (by first | decide | with_reducible assumption | omega) (by first | decide | with_reducible assumption | omega) (by first | decide | with_reducible assumption | omega)]; exact hw _ (by first | decide | with_reducible assumption | omega)
        · rw [gn_ne (fun _ => e2)]; exact hw c hc
    · refine E_ifF rfl (decide_eq_false (fun q => hb3 (fun z => q ((nJ_eq0 (by first | decide | with_reducible assumption | omega)).mpr z)))) ?_
      refine E_al rfl L2_0 ?_
      refine E_gr rfl hh (q := 89) rfl ?_
      refine E_il rfl L2_2 ?_
      refine E_il rfl L2_3 ?_
      refine E_ias rfl hh rfl (by first | decide | with_reducible assumption | omega) (by decide) ?_
      have hh5 : HH (pt h 89 ((gn h0 87 (3 * k + 1))) (nJ ((gn h0 87 (3 * k + 2))))) := HH_ptn hh (bd_u rfl (by first | decide | with_reducible assumption | omega)) (by first | decide | with_reducible assumption | omega) (by first | decide | with_reducible assumption | omega) (by first | decide | with_reducible assumption | omega)
      refine E_goto rfl ?_
      refine E_inc rfl L2_1 (nJ_inc _) (fun lv6 L6_1 kp6 => ?_)
      have L6_0 := kp6 0 _ (nbz rfl) rfl L2_0
      have L6_2 := kp6 2 _ (nbz rfl) rfl L2_2
      have L6_3 := kp6 3 _ (nbz rfl) rfl L2_3
      refine E_goto rfl ?_
      refine ih lv6 (by first | decide | with_reducible assumption | omega) hh5 (fr_ptr (l := 0) (u := 7) rfl (by first | decide | with_reducible assumption | omega) (by first | decide | with_reducible assumption | omega) hfr) (fun c hc => ?_) L6_0 L6_1
      by_cases e : c = gn h0 87 (3 * k + 1)
      · rw [e, gn_ptn hh (bd_u rfl (by first | decide | with_reducible assumption | omega)) (by first | decide | with_reducible assumption | omega) (by first | decide | with_reducible assumption | omega) (by first | decide | with_reducible assumption | omega)]; exact hact.1 (by first | decide | with_reducible assumption | omega)
      · rw [gn_ne (fun _ => e)]; exact hw c hc
theorem ly_one {h0 : pm_H} {d : Nat} (hh0 : HH h0) (hR : RI 0 h0) (j : Nat) : ∀ {h : pm_H} {c : Nat} (lv : List (Nat × Value)), c + j = gn h0 84 3 → HH h → fr_g YM h0 h → (∀ c1, c1 < c → 1 ≤ gn h 89 c1) → pm_get lv 0 = some (.ref 77) → pm_get lv 1 = some (.int (nJ c)) → Ends (pm_at tX9_lays) (pm_Rt pm_P (d + 1)) (24, lv, [], h, 0, 0) (fun h' r => r = none ∧ HH h' ∧ fr_g YM h0 h' ∧ ∀ c, c < gn h' 84 3 → 1 ≤ gn h' 89 c) := by
  have hC : gn h0 84 3 ≤ 8 := gn_hi hh0 rfl (by decide)
  induction j with
  | zero =>
    intro h c lv hj hh hfr hw L0 L1
    have hce : gn h 84 3 = gn h0 84 3 := fr_gn hfr (rg_no rfl _)
    refine E_il rfl L1 ?_
    refine E_al rfl L0 ?_
    refine E_call rfl (sp_cars hh) (chk77 hh rfl rfl (by show 1 ≤ 8; decide)) (fun h1 r1 => ?_)
    rintro ⟨e1, f1, c1⟩
    rw [e1, f1]
    show Ends _ _ (29, lv, [.int (nJ (gn h 84 3)), .int (nJ c)], h, 0, 0) _
    refine E_icT rfl (decide_eq_true ((nJ_le (by first | decide | with_reducible assumption | omega) (by first | decide | with_reducible assumption | omega)).mpr (by first | decide | with_reducible assumption | omega))) ?_
    refine E_ci 0 rfl ci0 ?_
    refine E_is rfl (fun lv2 L2_1 kp2 => ?_)
    have L2_0 := kp2 0 _ (nbz rfl) rfl L0
    exact ly_two hh0 hR (gn h0 84 5) (k := 0) lv2 (by first | decide | with_reducible assumption | omega) hh hfr (fun c1 hc1 => hw c1 (by first | decide | with_reducible assumption | omega)) L2_0 L2_1
  | succ j ih =>
    intro h c lv hj hh hfr hw L0 L1
    have hce : gn h 84 3 = gn h0 84 3 := fr_gn hfr (rg_no rfl _)
    refine E_il rfl L1 ?_
    refine E_al rfl L0 ?_
    refine E_call rfl (sp_cars hh) (chk77 hh rfl rfl (by show 1 ≤ 8; decide)) (fun h1 r1 => ?_)
    rintro ⟨e1, f1, c1⟩
    rw [e1, f1]
    show Ends _ _ (29, lv, [.int (nJ (gn h 84 3)), .int (nJ c)], h, 0, 0) _
    refine E_icF rfl (decide_eq_false (fun q => absurd ((nJ_le (by first | decide | with_reducible assumption | omega) (by first | decide | with_reducible assumption | omega)).mp q) (by first | decide | with_reducible assumption | omega))) ?_
    have ht8 : gn h0 85 (2 * c) ≤ 8 := gn_hi hh0 (bd_85 (by first | decide | with_reducible assumption | omega) (by first | decide | with_reducible assumption | omega)) (by decide)
    refine E_al rfl L0 ?_
    refine E_gr rfl hh (q := 89) rfl ?_
    refine E_il rfl L1 ?_
    refine E_al rfl L0 ?_
    refine E_gr rfl hh (q := 85) rfl ?_
    refine E_ci 2 rfl ci2 ?_
    refine E_il rfl L1 ?_
    refine E_bin rfl (nJ_mul _ _) ?_
    refine E_ial rfl hh rfl (by first | decide | with_reducible assumption | omega) (by decide) (show gi h 85 ((2 * c)) = nJ ((gn h0 85 (2 * c))) from by rw [fr_gi hfr (rg_no rfl _)]; exact gi_gn hh0 (bd_85 (by first | decide | with_reducible assumption | omega) (by first | decide | with_reducible assumption | omega)) (by decide)) ?_
    refine E_ias rfl hh rfl (by first | decide | with_reducible assumption | omega) (by decide) ?_
    have hh2 : HH (pt h 89 c (nJ ((gn h0 85 (2 * c))))) := HH_ptn hh (bd_u rfl (by first | decide | with_reducible assumption | omega)) (by first | decide | with_reducible assumption | omega) (by first | decide | with_reducible assumption | omega) (by first | decide | with_reducible assumption | omega)
    refine E_inc rfl L1 (nJ_inc _) (fun lv3 L3_1 kp3 => ?_)
    have L3_0 := kp3 0 _ (nbz rfl) rfl L0
    refine E_goto rfl ?_
    refine ih lv3 (by first | decide | with_reducible assumption | omega) hh2 (fr_ptr (l := 0) (u := 7) rfl (by first | decide | with_reducible assumption | omega) (by first | decide | with_reducible assumption | omega) hfr) (fun c1 hc1 => ?_) L3_0 L3_1
    by_cases e : c1 = c
    · rw [e, gn_ptn hh (bd_u rfl (by first | decide | with_reducible assumption | omega)) (by first | decide | with_reducible assumption | omega) (by first | decide | with_reducible assumption | omega) (by first | decide | with_reducible assumption | omega)]; have := hR.2.1 c (show c < gn h0 84 3 by omega); simp only [Nat.mul_zero, Nat.zero_add] at this; exact this
    · rw [gn_ne (fun _ => e)]; exact hw c1 (by first | decide | with_reducible assumption | omega)
theorem sp_lays {h0 : pm_H} {d : Nat} (hh0 : HH h0) (hR : RI 0 h0) : Sp (d + 2) 293 h0 [.ref 77] (fun h' r => r = none ∧ HH h' ∧ fr_g YM h0 h' ∧ ∀ c, c < gn h' 84 3 → 1 ≤ gn h' 89 c) := by
  refine Sp_of aiX9_lays rfl rfl rfl ?_
  refine E_al rfl (show pm_get (lv_args 0 [.ref 77]) 0 = _ from rfl) ?_
  refine E_al rfl (show pm_get (lv_args 0 [.ref 77]) 0 = _ from rfl) ?_
  refine E_gr rfl hh0 (q := 84) rfl ?_
  refine E_ci 1 rfl ci1 ?_
  have b1 : gn h0 84 1 ≤ 3 := gn_hi hh0 rfl (by decide)
  refine E_ial rfl hh0 rfl (by first | decide | with_reducible assumption | omega) (by decide) (gi_gn hh0 rfl (by decide)) ?_
  refine E_pf rfl hh0 rfl ?_
  have hh2 : HH (pt h0 77 22 (nJ ((gn h0 84 1)))) := HH_ptn hh0 rfl (by first | decide | with_reducible assumption | omega) (by first | decide | with_reducible assumption | omega) (by first | decide | with_reducible assumption | omega)
  have fr2 : fr_g YM h0 (pt h0 77 22 (nJ ((gn h0 84 1)))) := fr_ptr (l := 22) (u := 22) rfl (by first | decide | with_reducible assumption | omega) (by first | decide | with_reducible assumption | omega) (fr_rf YM h0)
  refine E_al rfl (show pm_get (lv_args 0 [.ref 77]) 0 = _ from rfl) ?_
  refine E_ci 1 rfl ci1 ?_
  refine E_al rfl (show pm_get (lv_args 0 [.ref 77]) 0 = _ from rfl) ?_
  refine E_call rfl (sp_cars hh2) (chk77 hh2 rfl rfl (by show 2 ≤ 8; decide)) (fun h3 r3 => ?_)
  rintro ⟨e3, f3, c3⟩
  rw [e3, f3]
  show Ends _ _ (16, (lv_args 0 [.ref 77]), [.int (nJ (gn (pt h0 77 22 (nJ ((gn h0 84 1)))) 84 3)), .int (nJ 1), .ref 77], (pt h0 77 22 (nJ ((gn h0 84 1)))), 0, 0) _
  refine E_bin rfl rfl ?_
  refine E_ci 1 rfl ci1 ?_
  refine E_bin rfl rfl ?_
  refine E_pf rfl hh2 rfl ?_
  have hh4 : HH (pt (pt h0 77 22 (nJ ((gn h0 84 1)))) 77 23 ((nJ 1 <<< (nJ ((gn (pt h0 77 22 (nJ ((gn h0 84 1)))) 84 3)) &&& 31)) - nJ 1)) := HH_pt hh2 rfl (ai_lo _) (ai_hi _)
  have fr4 : fr_g YM h0 (pt (pt h0 77 22 (nJ ((gn h0 84 1)))) 77 23 ((nJ 1 <<< (nJ ((gn (pt h0 77 22 (nJ ((gn h0 84 1)))) 84 3)) &&& 31)) - nJ 1)) := fr_ptr (l := 23) (u := 23) rfl (by first | decide | with_reducible assumption | omega) (by first | decide | with_reducible assumption | omega) fr2
  refine E_ci 0 rfl ci0 ?_
  refine E_is rfl (fun lv5 L5_1 kp5 => ?_)
  have L5_0 := kp5 0 _ (nbz rfl) rfl (show pm_get (lv_args 0 [.ref 77]) 0 = _ from rfl)
  exact ly_one hh0 hR (gn h0 84 3) (c := 0) lv5 (by first | decide | with_reducible assumption | omega) hh4 fr4 (fun c1 hc1 => absurd hc1 (Nat.not_lt_zero _)) L5_0 L5_1
theorem sp_isNode {h : pm_H} {d : Nat} {x : Int32} (hh : HH h) : Sp (d + 2) 273 h [.ref 77, .int x] (fun h' r => h' = h ∧ r = some (.int (zb (0 < (gi h 83 0).toInt ∧ 0 ≤ x.toInt ∧ x.toInt ≤ (gn h 84 0 : Int))))) := by
  refine Sp_of aiX9_isNode rfl rfl rfl ?_
  refine E_al rfl (show pm_get (lv_args 0 [.ref 77, .int x]) 0 = _ from rfl) ?_
  refine E_call rfl (sp_isStreet hh) (chk77 hh rfl rfl (by show 0 ≤ 8; decide)) (fun h1 r1 => ?_)
  rintro ⟨e1, f1⟩
  rw [e1, f1]
  show Ends _ _ (4, (lv_args 0 [.ref 77, .int x]), [.int (zb (0 < (gi h 83 0).toInt))], h, 0, 0) _
  by_cases hb2 : ¬ (0 < (gi h 83 0).toInt)
  · refine E_ifT rfl (by rw [zb_F hb2]; rfl) ?_
    refine E_ci 0 rfl ci0 ?_
    exact E_rtz rfl (.inl rfl) ⟨rfl, by rw [zb_F (by first | decide | with_reducible assumption | omega)]⟩
  · refine E_ifF rfl (by rw [zb_T (Classical.not_not.mp hb2)]; rfl) ?_
    refine E_il rfl (show pm_get (lv_args 0 [.ref 77, .int x]) 1 = _ from rfl) ?_
    refine E_i2l rfl ?_
    refine E_c rfl ?_
    refine E_al rfl (show pm_get (lv_args 0 [.ref 77, .int x]) 0 = _ from rfl) ?_
    refine E_call rfl (sp_places hh) (chk77 hh rfl rfl (by show 4 ≤ 8; decide)) (fun h3 r3 => ?_)
    rintro ⟨e3, f3, c3⟩
    rw [e3, f3]
    show Ends _ _ (14, (lv_args 0 [.ref 77, .int x]), [.int (nJ (gn h 84 0)), .long (0), .long (x).toInt64], h, 0, 0) _
    refine E_i2l rfl ?_
    refine E_call rfl (sp_in (a := x.toInt) (b := 0) (c := ((((gn h 84 0)) : Nat) : Int)) (i2l_toInt _) rfl (i2l_nJ (by first | decide | with_reducible assumption | omega))) (chkS rfl (by show 0 ≤ 8; decide)) (fun h4 r4 => ?_)
    rintro ⟨e4, f4⟩
    rw [e4, f4]
    show Ends _ _ (18, (lv_args 0 [.ref 77, .int x]), [.int (zb (0 ≤ x.toInt ∧ x.toInt ≤ ((((gn h 84 0)) : Nat) : Int)))], h, 0, 0) _
    by_cases hb5 : ¬ (0 ≤ x.toInt ∧ x.toInt ≤ ((((gn h 84 0)) : Nat) : Int))
    · refine E_ifT rfl (by rw [zb_F hb5]; rfl) ?_
      refine E_ci 0 rfl ci0 ?_
      exact E_rtz rfl (.inl rfl) ⟨rfl, by rw [zb_F (by first | decide | with_reducible assumption | omega)]⟩
    · refine E_ifF rfl (by rw [zb_T (Classical.not_not.mp hb5)]; rfl) ?_
      refine E_ci 1 rfl ci1 ?_
      refine E_goto rfl ?_
      exact E_rtz rfl (.inr rfl) ⟨rfl, by rw [zb_T (by first | decide | with_reducible assumption | omega)]⟩
end
section
/-! by hand: calls that ask the tree (written by gen_t9.py) -/
theorem tp_parent {h0 : pm_H} {d : Nat} {x : Int32} (hh0 : HH h0) (hR : RI 0 h0) : Sp (d + 30) 319 h0 [.ref 77, .int x] (TQ h0) := by
  refine Sp_of aiX9_parent rfl rfl rfl ?_
  have L0 : pm_get (lv_args 0 [.ref 77, .int x]) 0 = some (.ref 77) := rfl
  have L1 : pm_get (lv_args 0 [.ref 77, .int x]) 1 = some (.int x) := rfl
  generalize lv_args 0 [.ref 77, .int x] = lv at L0 L1 ⊢
  refine E_al rfl L0 ?_
  refine E_ci 0 rfl ci0 ?_
  refine E_pf rfl hh0 rfl ?_
  have hh1 : HH (pt h0 77 0 (nJ 0)) := HH_ptn hh0 rfl (by first | decide | with_reducible assumption | omega) (by first | decide | with_reducible assumption | omega) (by first | decide | with_reducible assumption | omega)
  have fr1 : fr_g TM h0 (pt h0 77 0 (nJ 0)) := fr_ptr (l := 0) (u := 0) rfl (by first | decide | with_reducible assumption | omega) (by first | decide | with_reducible assumption | omega) (fr_rf TM h0)
  refine E_al rfl L0 ?_
  refine E_il rfl L1 ?_
  refine E_i2l rfl ?_
  refine E_call rfl (sp_isCar hh1) (chk77 hh1 rfl rfl (by show 0 ≤ 8; decide)) (fun h2 r2 => ?_)
  rintro ⟨e2, f2⟩
  rw [e2, f2]
  show Ends _ _ (11, lv, [.int (zb (0 ≤ x.toInt ∧ x.toInt ≤ (gn (pt h0 77 0 (nJ 0)) 84 3 : Int) - 1))], (pt h0 77 0 (nJ 0)), 0, 0) _
  by_cases hb3 : 0 ≤ x.toInt ∧ x.toInt ≤ (gn (pt h0 77 0 (nJ 0)) 84 3 : Int) - 1
  · refine E_ifT rfl (by rw [zb_T hb3]; rfl) ?_
    have hC8 : gn (pt h0 77 0 (nJ 0)) 84 3 ≤ 8 := gn_hi hh1 rfl (by decide)
    obtain ⟨k, hk, rfl⟩ := nJ_of2 (n := gn (pt h0 77 0 (nJ 0)) 84 3 - 1) hb3.1 (by have := hb3.2; have := hb3.1; omega)
    have hk2 : k < gn (pt h0 77 0 (nJ 0)) 84 3 := by have h9 := hb3.2; have h8 := hb3.1; rw [nJ_toInt (by first | decide | with_reducible assumption | omega)] at h9; omega
    refine E_al rfl L0 ?_
    refine E_call rfl (Sp_le (by first | exact Nat.add_le_add_left (Nat.le_of_ble_eq_true rfl) _ | exact Nat.le_of_ble_eq_true rfl | omega) (sp_lays (d := 0) hh1 (RI_fr hR rfl fr1))) (chk77 hh1 rfl rfl (by show 0 ≤ 8; decide)) (fun h4 r4 => ?_)
    rintro ⟨e4, hh4, fq4, wq4⟩
    rw [e4]
    have fr4 : fr_g TM h0 h4 := fr_trans fr1 (fr_wk rfl fq4)
    show Ends _ _ (21, lv, [], h4, 0, 0) _
    refine E_al rfl L0 ?_
    refine E_call rfl (Sp_le (by first | exact Nat.add_le_add_left (Nat.le_of_ble_eq_true rfl) _ | exact Nat.le_of_ble_eq_true rfl | omega) (sp_isLawful (d := 0) hh4)) (chk77 hh4 rfl rfl (by show 0 ≤ 8; decide)) (fun h5 r5 => ?_)
    rintro ⟨e5, f5⟩
    rw [e5]
    rcases f5 with f5 | ⟨f5, lw5⟩
    · rw [f5]
      show Ends _ _ (25, lv, [.int (nJ 0)], h4, 0, 0) _
      refine E_ifF rfl (by decide) ?_
      refine E_c rfl ?_
      exact E_rti rfl ⟨hh4, fr4, _, rfl⟩
    · rw [f5]
      show Ends _ _ (25, lv, [.int (nJ 1)], h4, 0, 0) _
      refine E_ifT rfl (by decide) ?_
      refine E_al rfl L0 ?_
      refine E_call rfl (Sp_le (by first | exact Nat.add_le_add_left (Nat.le_of_ble_eq_true rfl) _ | exact Nat.le_of_ble_eq_true rfl | omega) (sp_laysTree (d := 0) hh4 lw5 wq4)) (chk77 hh4 rfl rfl (by show 0 ≤ 8; decide)) (fun h6 r6 => ?_)
      rintro ⟨e6, hh6, fq6, dq6⟩
      rw [e6]
      have fr6 : fr_g TM h0 h6 := fr_trans fr4 (fr_wk rfl fq6)
      have pe6 : gn h6 84 0 = gn h4 84 3 := by rw [fr_gn fq6 (rg_no rfl _)]; exact lw5.1.symm
      show Ends _ _ (34, lv, [], h6, 0, 0) _
      refine E_al rfl L0 ?_
      refine E_gr rfl hh6 (q := 92) rfl ?_
      refine E_il rfl L1 ?_
      refine E_ci 1 rfl ci1 ?_
      refine E_bin rfl (nJ_add _ _) ?_
      have b7 : gn h6 92 ((k + 1)) ≤ 8 := gn_hi hh6 (bd_u rfl (by first | decide | with_reducible assumption | omega)) (by decide)
      refine E_ial rfl hh6 rfl (by first | decide | with_reducible assumption | omega) (by decide) (gi_gn hh6 (bd_u rfl (by first | decide | with_reducible assumption | omega)) (by decide)) ?_
      exact E_rti rfl ⟨hh6, fr6, _, rfl⟩
  · refine E_ifF rfl (by rw [zb_F hb3]; rfl) ?_
    refine E_c rfl ?_
    exact E_rti rfl ⟨hh1, fr1, _, rfl⟩
theorem tp_burnt {h0 : pm_H} {d : Nat} {x : Int32} (hh0 : HH h0) (hR : RI 0 h0) : Sp (d + 30) 220 h0 [.ref 77, .int x] (TQ h0) := by
  refine Sp_of aiX9_burnt rfl rfl rfl ?_
  have L0 : pm_get (lv_args 0 [.ref 77, .int x]) 0 = some (.ref 77) := rfl
  have L1 : pm_get (lv_args 0 [.ref 77, .int x]) 1 = some (.int x) := rfl
  generalize lv_args 0 [.ref 77, .int x] = lv at L0 L1 ⊢
  refine E_al rfl L0 ?_
  refine E_ci 0 rfl ci0 ?_
  refine E_pf rfl hh0 rfl ?_
  have hh1 : HH (pt h0 77 0 (nJ 0)) := HH_ptn hh0 rfl (by first | decide | with_reducible assumption | omega) (by first | decide | with_reducible assumption | omega) (by first | decide | with_reducible assumption | omega)
  have fr1 : fr_g TM h0 (pt h0 77 0 (nJ 0)) := fr_ptr (l := 0) (u := 0) rfl (by first | decide | with_reducible assumption | omega) (by first | decide | with_reducible assumption | omega) (fr_rf TM h0)
  refine E_al rfl L0 ?_
  refine E_il rfl L1 ?_
  refine E_i2l rfl ?_
  refine E_call rfl (sp_isCar hh1) (chk77 hh1 rfl rfl (by show 0 ≤ 8; decide)) (fun h2 r2 => ?_)
  rintro ⟨e2, f2⟩
  rw [e2, f2]
  show Ends _ _ (11, lv, [.int (zb (0 ≤ x.toInt ∧ x.toInt ≤ (gn (pt h0 77 0 (nJ 0)) 84 3 : Int) - 1))], (pt h0 77 0 (nJ 0)), 0, 0) _
  by_cases hb3 : 0 ≤ x.toInt ∧ x.toInt ≤ (gn (pt h0 77 0 (nJ 0)) 84 3 : Int) - 1
  · refine E_ifT rfl (by rw [zb_T hb3]; rfl) ?_
    have hC8 : gn (pt h0 77 0 (nJ 0)) 84 3 ≤ 8 := gn_hi hh1 rfl (by decide)
    obtain ⟨k, hk, rfl⟩ := nJ_of2 (n := gn (pt h0 77 0 (nJ 0)) 84 3 - 1) hb3.1 (by have := hb3.2; have := hb3.1; omega)
    have hk2 : k < gn (pt h0 77 0 (nJ 0)) 84 3 := by have h9 := hb3.2; have h8 := hb3.1; rw [nJ_toInt (by first | decide | with_reducible assumption | omega)] at h9; omega
    refine E_al rfl L0 ?_
    refine E_call rfl (Sp_le (by first | exact Nat.add_le_add_left (Nat.le_of_ble_eq_true rfl) _ | exact Nat.le_of_ble_eq_true rfl | omega) (sp_lays (d := 0) hh1 (RI_fr hR rfl fr1))) (chk77 hh1 rfl rfl (by show 0 ≤ 8; decide)) (fun h4 r4 => ?_)
    rintro ⟨e4, hh4, fq4, wq4⟩
    rw [e4]
    have fr4 : fr_g TM h0 h4 := fr_trans fr1 (fr_wk rfl fq4)
    show Ends _ _ (21, lv, [], h4, 0, 0) _
    refine E_al rfl L0 ?_
    refine E_call rfl (Sp_le (by first | exact Nat.add_le_add_left (Nat.le_of_ble_eq_true rfl) _ | exact Nat.le_of_ble_eq_true rfl | omega) (sp_isLawful (d := 0) hh4)) (chk77 hh4 rfl rfl (by show 0 ≤ 8; decide)) (fun h5 r5 => ?_)
    rintro ⟨e5, f5⟩
    rw [e5]
    rcases f5 with f5 | ⟨f5, lw5⟩
    · rw [f5]
      show Ends _ _ (25, lv, [.int (nJ 0)], h4, 0, 0) _
      refine E_ifF rfl (by decide) ?_
      refine E_c rfl ?_
      exact E_rti rfl ⟨hh4, fr4, _, rfl⟩
    · rw [f5]
      show Ends _ _ (25, lv, [.int (nJ 1)], h4, 0, 0) _
      refine E_ifT rfl (by decide) ?_
      refine E_al rfl L0 ?_
      refine E_call rfl (Sp_le (by first | exact Nat.add_le_add_left (Nat.le_of_ble_eq_true rfl) _ | exact Nat.le_of_ble_eq_true rfl | omega) (sp_searches (d := 0) hh4 lw5)) (chk77 hh4 rfl rfl (by show 0 ≤ 8; decide)) (fun h6 r6 => ?_)
      rintro ⟨e6, hh6, fq6, dq6⟩
      rw [e6]
      have fr6 : fr_g TM h0 h6 := fr_trans fr4 (fr_wk rfl fq6)
      have pe6 : gn h6 84 0 = gn h4 84 3 := by rw [fr_gn fq6 (rg_no rfl _)]; exact lw5.1.symm
      show Ends _ _ (34, lv, [], h6, 0, 0) _
      refine E_al rfl L0 ?_
      refine E_gr rfl hh6 (q := 92) rfl ?_
      refine E_il rfl L1 ?_
      refine E_ci 1 rfl ci1 ?_
      refine E_bin rfl (nJ_add _ _) ?_
      have b7 : gn h6 92 ((k + 1)) ≤ 8 := gn_hi hh6 (bd_u rfl (by first | decide | with_reducible assumption | omega)) (by decide)
      refine E_ial rfl hh6 rfl (by first | decide | with_reducible assumption | omega) (by decide) (gi_gn hh6 (bd_u rfl (by first | decide | with_reducible assumption | omega)) (by decide)) ?_
      exact E_rti rfl ⟨hh6, fr6, _, rfl⟩
  · refine E_ifF rfl (by rw [zb_F hb3]; rfl) ?_
    refine E_c rfl ?_
    exact E_rti rfl ⟨hh1, fr1, _, rfl⟩
theorem tp_queue {h0 : pm_H} {d : Nat} {x : Int32} (hh0 : HH h0) (hR : RI 0 h0) : Sp (d + 30) 328 h0 [.ref 77, .int x] (TQ h0) := by
  refine Sp_of aiX9_queue rfl rfl rfl ?_
  have L0 : pm_get (lv_args 0 [.ref 77, .int x]) 0 = some (.ref 77) := rfl
  have L1 : pm_get (lv_args 0 [.ref 77, .int x]) 1 = some (.int x) := rfl
  generalize lv_args 0 [.ref 77, .int x] = lv at L0 L1 ⊢
  refine E_al rfl L0 ?_
  refine E_ci 0 rfl ci0 ?_
  refine E_pf rfl hh0 rfl ?_
  have hh1 : HH (pt h0 77 0 (nJ 0)) := HH_ptn hh0 rfl (by first | decide | with_reducible assumption | omega) (by first | decide | with_reducible assumption | omega) (by first | decide | with_reducible assumption | omega)
  have fr1 : fr_g TM h0 (pt h0 77 0 (nJ 0)) := fr_ptr (l := 0) (u := 0) rfl (by first | decide | with_reducible assumption | omega) (by first | decide | with_reducible assumption | omega) (fr_rf TM h0)
  refine E_al rfl L0 ?_
  refine E_il rfl L1 ?_
  refine E_call rfl (Sp_le (by first | exact Nat.add_le_add_left (Nat.le_of_ble_eq_true rfl) _ | exact Nat.le_of_ble_eq_true rfl | omega) (sp_isNode (d := 0) hh1)) (chk77 hh1 rfl rfl (by show 0 ≤ 8; decide)) (fun h2 r2 => ?_)
  rintro ⟨e2, f2⟩
  rw [e2, f2]
  show Ends _ _ (10, lv, [.int (zb (0 < (gi (pt h0 77 0 (nJ 0)) 83 0).toInt ∧ 0 ≤ x.toInt ∧ x.toInt ≤ (gn (pt h0 77 0 (nJ 0)) 84 0 : Int)))], (pt h0 77 0 (nJ 0)), 0, 0) _
  by_cases hb3 : 0 < (gi (pt h0 77 0 (nJ 0)) 83 0).toInt ∧ 0 ≤ x.toInt ∧ x.toInt ≤ (gn (pt h0 77 0 (nJ 0)) 84 0 : Int)
  · refine E_ifT rfl (by rw [zb_T hb3]; rfl) ?_
    have hP8 : gn (pt h0 77 0 (nJ 0)) 84 0 ≤ 8 := gn_hi hh1 rfl (by decide)
    obtain ⟨k, hk, rfl⟩ := nJ_of2 (n := gn (pt h0 77 0 (nJ 0)) 84 0) hb3.2.1 hb3.2.2
    refine E_al rfl L0 ?_
    refine E_call rfl (Sp_le (by first | exact Nat.add_le_add_left (Nat.le_of_ble_eq_true rfl) _ | exact Nat.le_of_ble_eq_true rfl | omega) (sp_lays (d := 0) hh1 (RI_fr hR rfl fr1))) (chk77 hh1 rfl rfl (by show 0 ≤ 8; decide)) (fun h4 r4 => ?_)
    rintro ⟨e4, hh4, fq4, wq4⟩
    rw [e4]
    have fr4 : fr_g TM h0 h4 := fr_trans fr1 (fr_wk rfl fq4)
    show Ends _ _ (20, lv, [], h4, 0, 0) _
    refine E_al rfl L0 ?_
    refine E_call rfl (Sp_le (by first | exact Nat.add_le_add_left (Nat.le_of_ble_eq_true rfl) _ | exact Nat.le_of_ble_eq_true rfl | omega) (sp_isLawful (d := 0) hh4)) (chk77 hh4 rfl rfl (by show 0 ≤ 8; decide)) (fun h5 r5 => ?_)
    rintro ⟨e5, f5⟩
    rw [e5]
    rcases f5 with f5 | ⟨f5, lw5⟩
    · rw [f5]
      show Ends _ _ (24, lv, [.int (nJ 0)], h4, 0, 0) _
      refine E_ifF rfl (by decide) ?_
      refine E_c rfl ?_
      exact E_rti rfl ⟨hh4, fr4, _, rfl⟩
    · rw [f5]
      show Ends _ _ (24, lv, [.int (nJ 1)], h4, 0, 0) _
      refine E_ifT rfl (by decide) ?_
      refine E_al rfl L0 ?_
      refine E_call rfl (Sp_le (by first | exact Nat.add_le_add_left (Nat.le_of_ble_eq_true rfl) _ | exact Nat.le_of_ble_eq_true rfl | omega) (sp_laysTree (d := 0) hh4 lw5 wq4)) (chk77 hh4 rfl rfl (by show 0 ≤ 8; decide)) (fun h6 r6 => ?_)
      rintro ⟨e6, hh6, fq6, dq6⟩
      rw [e6]
      have fr6 : fr_g TM h0 h6 := fr_trans fr4 (fr_wk rfl fq6)
      have pe6 : gn h6 84 0 = gn h4 84 3 := by rw [fr_gn fq6 (rg_no rfl _)]; exact lw5.1.symm
      show Ends _ _ (33, lv, [], h6, 0, 0) _
      refine E_al rfl L0 ?_
      refine E_gr rfl hh6 (q := 93) rfl ?_
      refine E_il rfl L1 ?_
      have b7 : gn h6 93 k ≤ 8 := gn_hi hh6 (bd_u rfl (by first | decide | with_reducible assumption | omega)) (by decide)
      refine E_ial rfl hh6 rfl (by first | decide | with_reducible assumption | omega) (by decide) (gi_gn hh6 (bd_u rfl (by first | decide | with_reducible assumption | omega)) (by decide)) ?_
      exact E_rti rfl ⟨hh6, fr6, _, rfl⟩
  · refine E_ifF rfl (by rw [zb_F hb3]; rfl) ?_
    refine E_c rfl ?_
    exact E_rti rfl ⟨hh1, fr1, _, rfl⟩
theorem tp_visit {h0 : pm_H} {d : Nat} {x : Int32} (hh0 : HH h0) (hR : RI 0 h0) : Sp (d + 30) 368 h0 [.ref 77, .int x] (TQ h0) := by
  refine Sp_of aiX9_visit rfl rfl rfl ?_
  have L0 : pm_get (lv_args 0 [.ref 77, .int x]) 0 = some (.ref 77) := rfl
  have L1 : pm_get (lv_args 0 [.ref 77, .int x]) 1 = some (.int x) := rfl
  generalize lv_args 0 [.ref 77, .int x] = lv at L0 L1 ⊢
  refine E_al rfl L0 ?_
  refine E_ci 0 rfl ci0 ?_
  refine E_pf rfl hh0 rfl ?_
  have hh1 : HH (pt h0 77 0 (nJ 0)) := HH_ptn hh0 rfl (by first | decide | with_reducible assumption | omega) (by first | decide | with_reducible assumption | omega) (by first | decide | with_reducible assumption | omega)
  have fr1 : fr_g TM h0 (pt h0 77 0 (nJ 0)) := fr_ptr (l := 0) (u := 0) rfl (by first | decide | with_reducible assumption | omega) (by first | decide | with_reducible assumption | omega) (fr_rf TM h0)
  refine E_al rfl L0 ?_
  refine E_il rfl L1 ?_
  refine E_call rfl (Sp_le (by first | exact Nat.add_le_add_left (Nat.le_of_ble_eq_true rfl) _ | exact Nat.le_of_ble_eq_true rfl | omega) (sp_isNode (d := 0) hh1)) (chk77 hh1 rfl rfl (by show 0 ≤ 8; decide)) (fun h2 r2 => ?_)
  rintro ⟨e2, f2⟩
  rw [e2, f2]
  show Ends _ _ (10, lv, [.int (zb (0 < (gi (pt h0 77 0 (nJ 0)) 83 0).toInt ∧ 0 ≤ x.toInt ∧ x.toInt ≤ (gn (pt h0 77 0 (nJ 0)) 84 0 : Int)))], (pt h0 77 0 (nJ 0)), 0, 0) _
  by_cases hb3 : 0 < (gi (pt h0 77 0 (nJ 0)) 83 0).toInt ∧ 0 ≤ x.toInt ∧ x.toInt ≤ (gn (pt h0 77 0 (nJ 0)) 84 0 : Int)
  · refine E_ifT rfl (by rw [zb_T hb3]; rfl) ?_
    have hP8 : gn (pt h0 77 0 (nJ 0)) 84 0 ≤ 8 := gn_hi hh1 rfl (by decide)
    obtain ⟨k, hk, rfl⟩ := nJ_of2 (n := gn (pt h0 77 0 (nJ 0)) 84 0) hb3.2.1 hb3.2.2
    refine E_al rfl L0 ?_
    refine E_call rfl (Sp_le (by first | exact Nat.add_le_add_left (Nat.le_of_ble_eq_true rfl) _ | exact Nat.le_of_ble_eq_true rfl | omega) (sp_lays (d := 0) hh1 (RI_fr hR rfl fr1))) (chk77 hh1 rfl rfl (by show 0 ≤ 8; decide)) (fun h4 r4 => ?_)
    rintro ⟨e4, hh4, fq4, wq4⟩
    rw [e4]
    have fr4 : fr_g TM h0 h4 := fr_trans fr1 (fr_wk rfl fq4)
    show Ends _ _ (20, lv, [], h4, 0, 0) _
    refine E_al rfl L0 ?_
    refine E_call rfl (Sp_le (by first | exact Nat.add_le_add_left (Nat.le_of_ble_eq_true rfl) _ | exact Nat.le_of_ble_eq_true rfl | omega) (sp_isLawful (d := 0) hh4)) (chk77 hh4 rfl rfl (by show 0 ≤ 8; decide)) (fun h5 r5 => ?_)
    rintro ⟨e5, f5⟩
    rw [e5]
    rcases f5 with f5 | ⟨f5, lw5⟩
    · rw [f5]
      show Ends _ _ (24, lv, [.int (nJ 0)], h4, 0, 0) _
      refine E_ifF rfl (by decide) ?_
      refine E_c rfl ?_
      exact E_rti rfl ⟨hh4, fr4, _, rfl⟩
    · rw [f5]
      show Ends _ _ (24, lv, [.int (nJ 1)], h4, 0, 0) _
      refine E_ifT rfl (by decide) ?_
      refine E_al rfl L0 ?_
      refine E_call rfl (Sp_le (by first | exact Nat.add_le_add_left (Nat.le_of_ble_eq_true rfl) _ | exact Nat.le_of_ble_eq_true rfl | omega) (sp_searches (d := 0) hh4 lw5)) (chk77 hh4 rfl rfl (by show 0 ≤ 8; decide)) (fun h6 r6 => ?_)
      rintro ⟨e6, hh6, fq6, dq6⟩
      rw [e6]
      have fr6 : fr_g TM h0 h6 := fr_trans fr4 (fr_wk rfl fq6)
      have pe6 : gn h6 84 0 = gn h4 84 3 := by rw [fr_gn fq6 (rg_no rfl _)]; exact lw5.1.symm
      show Ends _ _ (33, lv, [], h6, 0, 0) _
      refine E_al rfl L0 ?_
      refine E_gr rfl hh6 (q := 98) rfl ?_
      refine E_il rfl L1 ?_
      have b7 : gn h6 98 k ≤ 8 := gn_hi hh6 (bd_u rfl (by first | decide | with_reducible assumption | omega)) (by decide)
      refine E_ial rfl hh6 rfl (by first | decide | with_reducible assumption | omega) (by decide) (gi_gn hh6 (bd_u rfl (by first | decide | with_reducible assumption | omega)) (by decide)) ?_
      exact E_rti rfl ⟨hh6, fr6, _, rfl⟩
  · refine E_ifF rfl (by rw [zb_F hb3]; rfl) ?_
    refine E_c rfl ?_
    exact E_rti rfl ⟨hh1, fr1, _, rfl⟩
theorem tp_inversions {h0 : pm_H} {d : Nat} (hh0 : HH h0) (hR : RI 0 h0) : Sp (d + 30) 263 h0 [.ref 77] (TQ h0) := by
  refine Sp_of aiX9_inversions rfl rfl rfl ?_
  have L0 : pm_get (lv_args 0 [.ref 77]) 0 = some (.ref 77) := rfl
  generalize lv_args 0 [.ref 77] = lv at L0 ⊢
  refine E_al rfl L0 ?_
  refine E_ci 0 rfl ci0 ?_
  refine E_pf rfl hh0 rfl ?_
  have hh1 : HH (pt h0 77 0 (nJ 0)) := HH_ptn hh0 rfl (by first | decide | with_reducible assumption | omega) (by first | decide | with_reducible assumption | omega) (by first | decide | with_reducible assumption | omega)
  have fr1 : fr_g TM h0 (pt h0 77 0 (nJ 0)) := fr_ptr (l := 0) (u := 0) rfl (by first | decide | with_reducible assumption | omega) (by first | decide | with_reducible assumption | omega) (fr_rf TM h0)
  refine E_al rfl L0 ?_
  refine E_call rfl (sp_isStreet hh1) (chk77 hh1 rfl rfl (by show 0 ≤ 8; decide)) (fun h2 r2 => ?_)
  rintro ⟨e2, f2⟩
  rw [e2, f2]
  show Ends _ _ (9, lv, [.int (zb (0 < (gi (pt h0 77 0 (nJ 0)) 83 0).toInt))], (pt h0 77 0 (nJ 0)), 0, 0) _
  by_cases hb3 : 0 < (gi (pt h0 77 0 (nJ 0)) 83 0).toInt
  · refine E_ifT rfl (by rw [zb_T hb3]; rfl) ?_
    refine E_al rfl L0 ?_
    refine E_call rfl (Sp_le (by first | exact Nat.add_le_add_left (Nat.le_of_ble_eq_true rfl) _ | exact Nat.le_of_ble_eq_true rfl | omega) (sp_lays (d := 0) hh1 (RI_fr hR rfl fr1))) (chk77 hh1 rfl rfl (by show 0 ≤ 8; decide)) (fun h4 r4 => ?_)
    rintro ⟨e4, hh4, fq4, wq4⟩
    rw [e4]
    have fr4 : fr_g TM h0 h4 := fr_trans fr1 (fr_wk rfl fq4)
    show Ends _ _ (19, lv, [], h4, 0, 0) _
    refine E_al rfl L0 ?_
    refine E_call rfl (Sp_le (by first | exact Nat.add_le_add_left (Nat.le_of_ble_eq_true rfl) _ | exact Nat.le_of_ble_eq_true rfl | omega) (sp_isLawful (d := 0) hh4)) (chk77 hh4 rfl rfl (by show 0 ≤ 8; decide)) (fun h5 r5 => ?_)
    rintro ⟨e5, f5⟩
    rw [e5]
    rcases f5 with f5 | ⟨f5, lw5⟩
    · rw [f5]
      show Ends _ _ (23, lv, [.int (nJ 0)], h4, 0, 0) _
      refine E_ifF rfl (by decide) ?_
      refine E_c rfl ?_
      exact E_rti rfl ⟨hh4, fr4, _, rfl⟩
    · rw [f5]
      show Ends _ _ (23, lv, [.int (nJ 1)], h4, 0, 0) _
      refine E_ifT rfl (by decide) ?_
      refine E_al rfl L0 ?_
      refine E_call rfl (Sp_le (by first | exact Nat.add_le_add_left (Nat.le_of_ble_eq_true rfl) _ | exact Nat.le_of_ble_eq_true rfl | omega) (sp_laysTree (d := 0) hh4 lw5 wq4)) (chk77 hh4 rfl rfl (by show 0 ≤ 8; decide)) (fun h6 r6 => ?_)
      rintro ⟨e6, hh6, fq6, dq6⟩
      rw [e6]
      have fr6 : fr_g TM h0 h6 := fr_trans fr4 (fr_wk rfl fq6)
      have pe6 : gn h6 84 0 = gn h4 84 3 := by rw [fr_gn fq6 (rg_no rfl _)]; exact lw5.1.symm
      show Ends _ _ (32, lv, [], h6, 0, 0) _
      refine E_al rfl L0 ?_
      refine E_al rfl L0 ?_
      refine E_call rfl (sp_places hh6) (chk77 hh6 rfl rfl (by show 1 ≤ 8; decide)) (fun h7 r7 => ?_)
      rintro ⟨e7, f7, c7⟩
      rw [e7, f7]
      show Ends _ _ (37, lv, [.int (nJ (gn h6 84 0)), .ref 77], h6, 0, 0) _
      refine E_call rfl (Sp_le (by first | exact Nat.add_le_add_left (Nat.le_of_ble_eq_true rfl) _ | exact Nat.le_of_ble_eq_true rfl | omega) (sp_turnedIn (d := 0) hh6 (by first | decide | with_reducible assumption | omega) (fun v h1 h2 => (fun v h1 h2 => (dq6 v h1 h2).1) v h1 (by first | decide | with_reducible assumption | omega)))) (chk77 hh6 rfl rfl (by show 0 ≤ 8; decide)) (fun h8 r8 => ?_)
      rintro ⟨e8, x8, f8⟩
      rw [e8, f8]
      show Ends _ _ (40, lv, [.int x8], h6, 0, 0) _
      exact E_rti rfl ⟨hh6, fr6, _, rfl⟩
  · refine E_ifF rfl (by rw [zb_F hb3]; rfl) ?_
    refine E_c rfl ?_
    exact E_rti rfl ⟨hh1, fr1, _, rfl⟩
theorem tp_turned {h0 : pm_H} {d : Nat} (hh0 : HH h0) (hR : RI 0 h0) : Sp (d + 30) 364 h0 [.ref 77] (TQ h0) := by
  refine Sp_of aiX9_turned rfl rfl rfl ?_
  have L0 : pm_get (lv_args 0 [.ref 77]) 0 = some (.ref 77) := rfl
  generalize lv_args 0 [.ref 77] = lv at L0 ⊢
  refine E_al rfl L0 ?_
  refine E_ci 0 rfl ci0 ?_
  refine E_pf rfl hh0 rfl ?_
  have hh1 : HH (pt h0 77 0 (nJ 0)) := HH_ptn hh0 rfl (by first | decide | with_reducible assumption | omega) (by first | decide | with_reducible assumption | omega) (by first | decide | with_reducible assumption | omega)
  have fr1 : fr_g TM h0 (pt h0 77 0 (nJ 0)) := fr_ptr (l := 0) (u := 0) rfl (by first | decide | with_reducible assumption | omega) (by first | decide | with_reducible assumption | omega) (fr_rf TM h0)
  refine E_al rfl L0 ?_
  refine E_call rfl (sp_isStreet hh1) (chk77 hh1 rfl rfl (by show 0 ≤ 8; decide)) (fun h2 r2 => ?_)
  rintro ⟨e2, f2⟩
  rw [e2, f2]
  show Ends _ _ (9, lv, [.int (zb (0 < (gi (pt h0 77 0 (nJ 0)) 83 0).toInt))], (pt h0 77 0 (nJ 0)), 0, 0) _
  by_cases hb3 : 0 < (gi (pt h0 77 0 (nJ 0)) 83 0).toInt
  · refine E_ifT rfl (by rw [zb_T hb3]; rfl) ?_
    refine E_al rfl L0 ?_
    refine E_call rfl (Sp_le (by first | exact Nat.add_le_add_left (Nat.le_of_ble_eq_true rfl) _ | exact Nat.le_of_ble_eq_true rfl | omega) (sp_lays (d := 0) hh1 (RI_fr hR rfl fr1))) (chk77 hh1 rfl rfl (by show 0 ≤ 8; decide)) (fun h4 r4 => ?_)
    rintro ⟨e4, hh4, fq4, wq4⟩
    rw [e4]
    have fr4 : fr_g TM h0 h4 := fr_trans fr1 (fr_wk rfl fq4)
    show Ends _ _ (19, lv, [], h4, 0, 0) _
    refine E_al rfl L0 ?_
    refine E_call rfl (Sp_le (by first | exact Nat.add_le_add_left (Nat.le_of_ble_eq_true rfl) _ | exact Nat.le_of_ble_eq_true rfl | omega) (sp_isLawful (d := 0) hh4)) (chk77 hh4 rfl rfl (by show 0 ≤ 8; decide)) (fun h5 r5 => ?_)
    rintro ⟨e5, f5⟩
    rw [e5]
    rcases f5 with f5 | ⟨f5, lw5⟩
    · rw [f5]
      show Ends _ _ (23, lv, [.int (nJ 0)], h4, 0, 0) _
      refine E_ifF rfl (by decide) ?_
      refine E_c rfl ?_
      exact E_rti rfl ⟨hh4, fr4, _, rfl⟩
    · rw [f5]
      show Ends _ _ (23, lv, [.int (nJ 1)], h4, 0, 0) _
      refine E_ifT rfl (by decide) ?_
      refine E_al rfl L0 ?_
      refine E_call rfl (Sp_le (by first | exact Nat.add_le_add_left (Nat.le_of_ble_eq_true rfl) _ | exact Nat.le_of_ble_eq_true rfl | omega) (sp_searches (d := 0) hh4 lw5)) (chk77 hh4 rfl rfl (by show 0 ≤ 8; decide)) (fun h6 r6 => ?_)
      rintro ⟨e6, hh6, fq6, dq6⟩
      rw [e6]
      have fr6 : fr_g TM h0 h6 := fr_trans fr4 (fr_wk rfl fq6)
      have pe6 : gn h6 84 0 = gn h4 84 3 := by rw [fr_gn fq6 (rg_no rfl _)]; exact lw5.1.symm
      show Ends _ _ (32, lv, [], h6, 0, 0) _
      refine E_al rfl L0 ?_
      refine E_al rfl L0 ?_
      refine E_call rfl (sp_places hh6) (chk77 hh6 rfl rfl (by show 1 ≤ 8; decide)) (fun h7 r7 => ?_)
      rintro ⟨e7, f7, c7⟩
      rw [e7, f7]
      show Ends _ _ (37, lv, [.int (nJ (gn h6 84 0)), .ref 77], h6, 0, 0) _
      refine E_call rfl (Sp_le (by first | exact Nat.add_le_add_left (Nat.le_of_ble_eq_true rfl) _ | exact Nat.le_of_ble_eq_true rfl | omega) (sp_turnedIn (d := 0) hh6 (by first | decide | with_reducible assumption | omega) (fun v h1 h2 => dq6 v h1 (by first | decide | with_reducible assumption | omega)))) (chk77 hh6 rfl rfl (by show 0 ≤ 8; decide)) (fun h8 r8 => ?_)
      rintro ⟨e8, x8, f8⟩
      rw [e8, f8]
      show Ends _ _ (40, lv, [.int x8], h6, 0, 0) _
      exact E_rti rfl ⟨hh6, fr6, _, rfl⟩
  · refine E_ifF rfl (by rw [zb_F hb3]; rfl) ?_
    refine E_c rfl ?_
    exact E_rti rfl ⟨hh1, fr1, _, rfl⟩
theorem tp_kids {h0 : pm_H} {d : Nat} {x : Int32} (hh0 : HH h0) (hR : RI 0 h0) : Sp (d + 30) 284 h0 [.ref 77, .int x] (TQ h0) := by
  refine Sp_of aiX9_kids rfl rfl rfl ?_
  have L0 : pm_get (lv_args 0 [.ref 77, .int x]) 0 = some (.ref 77) := rfl
  have L1 : pm_get (lv_args 0 [.ref 77, .int x]) 1 = some (.int x) := rfl
  generalize lv_args 0 [.ref 77, .int x] = lv at L0 L1 ⊢
  refine E_al rfl L0 ?_
  refine E_ci 0 rfl ci0 ?_
  refine E_pf rfl hh0 rfl ?_
  have hh1 : HH (pt h0 77 0 (nJ 0)) := HH_ptn hh0 rfl (by first | decide | with_reducible assumption | omega) (by first | decide | with_reducible assumption | omega) (by first | decide | with_reducible assumption | omega)
  have fr1 : fr_g TM h0 (pt h0 77 0 (nJ 0)) := fr_ptr (l := 0) (u := 0) rfl (by first | decide | with_reducible assumption | omega) (by first | decide | with_reducible assumption | omega) (fr_rf TM h0)
  refine E_al rfl L0 ?_
  refine E_il rfl L1 ?_
  refine E_call rfl (Sp_le (by first | exact Nat.add_le_add_left (Nat.le_of_ble_eq_true rfl) _ | exact Nat.le_of_ble_eq_true rfl | omega) (sp_isNode (d := 0) hh1)) (chk77 hh1 rfl rfl (by show 0 ≤ 8; decide)) (fun h2 r2 => ?_)
  rintro ⟨e2, f2⟩
  rw [e2, f2]
  show Ends _ _ (10, lv, [.int (zb (0 < (gi (pt h0 77 0 (nJ 0)) 83 0).toInt ∧ 0 ≤ x.toInt ∧ x.toInt ≤ (gn (pt h0 77 0 (nJ 0)) 84 0 : Int)))], (pt h0 77 0 (nJ 0)), 0, 0) _
  by_cases hb3 : 0 < (gi (pt h0 77 0 (nJ 0)) 83 0).toInt ∧ 0 ≤ x.toInt ∧ x.toInt ≤ (gn (pt h0 77 0 (nJ 0)) 84 0 : Int)
  · refine E_ifT rfl (by rw [zb_T hb3]; rfl) ?_
    have hP8 : gn (pt h0 77 0 (nJ 0)) 84 0 ≤ 8 := gn_hi hh1 rfl (by decide)
    obtain ⟨k, hk, rfl⟩ := nJ_of2 (n := gn (pt h0 77 0 (nJ 0)) 84 0) hb3.2.1 hb3.2.2
    refine E_al rfl L0 ?_
    refine E_call rfl (Sp_le (by first | exact Nat.add_le_add_left (Nat.le_of_ble_eq_true rfl) _ | exact Nat.le_of_ble_eq_true rfl | omega) (sp_lays (d := 0) hh1 (RI_fr hR rfl fr1))) (chk77 hh1 rfl rfl (by show 0 ≤ 8; decide)) (fun h4 r4 => ?_)
    rintro ⟨e4, hh4, fq4, wq4⟩
    rw [e4]
    have fr4 : fr_g TM h0 h4 := fr_trans fr1 (fr_wk rfl fq4)
    show Ends _ _ (20, lv, [], h4, 0, 0) _
    refine E_al rfl L0 ?_
    refine E_call rfl (Sp_le (by first | exact Nat.add_le_add_left (Nat.le_of_ble_eq_true rfl) _ | exact Nat.le_of_ble_eq_true rfl | omega) (sp_isLawful (d := 0) hh4)) (chk77 hh4 rfl rfl (by show 0 ≤ 8; decide)) (fun h5 r5 => ?_)
    rintro ⟨e5, f5⟩
    rw [e5]
    rcases f5 with f5 | ⟨f5, lw5⟩
    · rw [f5]
      show Ends _ _ (24, lv, [.int (nJ 0)], h4, 0, 0) _
      refine E_ifF rfl (by decide) ?_
      refine E_c rfl ?_
      exact E_rti rfl ⟨hh4, fr4, _, rfl⟩
    · rw [f5]
      show Ends _ _ (24, lv, [.int (nJ 1)], h4, 0, 0) _
      refine E_ifT rfl (by decide) ?_
      refine E_al rfl L0 ?_
      refine E_call rfl (Sp_le (by first | exact Nat.add_le_add_left (Nat.le_of_ble_eq_true rfl) _ | exact Nat.le_of_ble_eq_true rfl | omega) (sp_laysTree (d := 0) hh4 lw5 wq4)) (chk77 hh4 rfl rfl (by show 0 ≤ 8; decide)) (fun h6 r6 => ?_)
      rintro ⟨e6, hh6, fq6, dq6⟩
      rw [e6]
      have fr6 : fr_g TM h0 h6 := fr_trans fr4 (fr_wk rfl fq6)
      have pe6 : gn h6 84 0 = gn h4 84 3 := by rw [fr_gn fq6 (rg_no rfl _)]; exact lw5.1.symm
      show Ends _ _ (33, lv, [], h6, 0, 0) _
      refine E_al rfl L0 ?_
      refine E_il rfl L1 ?_
      refine E_al rfl L0 ?_
      refine E_call rfl (sp_places hh6) (chk77 hh6 rfl rfl (by show 2 ≤ 8; decide)) (fun h7 r7 => ?_)
      rintro ⟨e7, f7, c7⟩
      rw [e7, f7]
      show Ends _ _ (39, lv, [.int (nJ (gn h6 84 0)), .int (nJ k), .ref 77], h6, 0, 0) _
      refine E_call rfl (Sp_le (by first | exact Nat.add_le_add_left (Nat.le_of_ble_eq_true rfl) _ | exact Nat.le_of_ble_eq_true rfl | omega) (Sp_sum (as := [.ref 77, .int (nJ k), .int (nJ ((gn h6 84 0)))]) q295 hh6 ⟨rfl, nJ_in (by first | decide | with_reducible assumption | omega) (by first | decide | with_reducible assumption | omega), nJ_in (by first | decide | with_reducible assumption | omega) (by first | decide | with_reducible assumption | omega), trivial⟩ (fun _ hq => absurd hq List.not_mem_nil) (fun _ hq => absurd hq List.not_mem_nil))) (chk77 hh6 rfl rfl (by show 0 ≤ 8; decide)) (fun h8 r8 => ?_)
      rintro ⟨hh8, fq8, C8, hC8, -, -, -, rv8⟩
      obtain ⟨x8, f8⟩ := rv_int295 hC8 rv8
      rw [f8]
      have fr8 : fr_g TM h0 h8 := fr_trans fr6 (fr_wk rfl fq8)
      have pe8 : gn h8 84 0 = gn h6 84 0 := fr_gn fq8 rfl
      show Ends _ _ (42, lv, [.int x8], h8, 0, 0) _
      exact E_rti rfl ⟨hh8, fr8, _, rfl⟩
  · refine E_ifF rfl (by rw [zb_F hb3]; rfl) ?_
    refine E_c rfl ?_
    exact E_rti rfl ⟨hh1, fr1, _, rfl⟩
theorem dp_loop {h0 h : pm_H} {d : Nat} (hh : HH h) (hfr : fr_g TM h0 h) (e : Nat) : ∀ {n : Int32} {u : Nat} (lv : List (Nat × Value)), u ≤ 8 → dep (gn h 92) e u → pm_get lv 0 = some (.ref 77) → pm_get lv 2 = some (.int n) → pm_get lv 3 = some (.int (nJ u)) → Ends (pm_at tX9_depth) (pm_Rt pm_P d) (40, lv, [], h, 0, 0) (TQ h0) := by
  induction e with
  | zero =>
    intro n u lv hu hd L0 L2 L3
    have hd : u = 0 := hd
    refine E_il rfl L3 ?_
    refine E_ifT rfl (decide_eq_true ((nJ_eq0 (by first | decide | with_reducible assumption | omega)).mpr hd)) ?_
    refine E_il rfl L2 ?_
    exact E_rti rfl ⟨hh, hfr, _, rfl⟩
  | succ e ih =>
    intro n u lv hu hd L0 L2 L3
    refine E_il rfl L3 ?_
    by_cases hb1 : u = 0
    · refine E_ifT rfl (decide_eq_true ((nJ_eq0 (by first | decide | with_reducible assumption | omega)).mpr hb1)) ?_
      refine E_il rfl L2 ?_
      exact E_rti rfl ⟨hh, hfr, _, rfl⟩
    · refine E_ifF rfl (decide_eq_false (fun q => hb1 ((nJ_eq0 (by first | decide | with_reducible assumption | omega)).mp q))) ?_
      refine E_inc rfl L2 rfl (fun lv2 L2_2 kp2 => ?_)
      have L2_0 := kp2 0 _ (nbz rfl) rfl L0
      have L2_3 := kp2 3 _ (nbz rfl) rfl L3
      refine E_al rfl L2_0 ?_
      refine E_gr rfl hh (q := 92) rfl ?_
      refine E_il rfl L2_3 ?_
      have b3 : gn h 92 u ≤ 8 := gn_hi hh (bd_u rfl (by first | decide | with_reducible assumption | omega)) (by decide)
      refine E_ial rfl hh rfl (by first | decide | with_reducible assumption | omega) (by decide) (gi_gn hh (bd_u rfl (by first | decide | with_reducible assumption | omega)) (by decide)) ?_
      refine E_is rfl (fun lv4 L4_3 kp4 => ?_)
      have L4_0 := kp4 0 _ (nbz rfl) rfl L2_0
      have L4_2 := kp4 2 _ (nbz rfl) rfl L2_2
      refine E_goto rfl ?_
      refine ih lv4 (by first | decide | with_reducible assumption | omega) ?_ L4_0 L4_2 L4_3
      cases hd with
      | inl q => exact absurd q hb1
      | inr q => exact q
theorem tp_depth {h0 : pm_H} {d : Nat} {x : Int32} (hh0 : HH h0) (hR : RI 0 h0) : Sp (d + 30) 237 h0 [.ref 77, .int x] (TQ h0) := by
  refine Sp_of aiX9_depth rfl rfl rfl ?_
  have L0 : pm_get (lv_args 0 [.ref 77, .int x]) 0 = some (.ref 77) := rfl
  have L1 : pm_get (lv_args 0 [.ref 77, .int x]) 1 = some (.int x) := rfl
  generalize lv_args 0 [.ref 77, .int x] = lv at L0 L1 ⊢
  refine E_al rfl L0 ?_
  refine E_ci 0 rfl ci0 ?_
  refine E_pf rfl hh0 rfl ?_
  have hh1 : HH (pt h0 77 0 (nJ 0)) := HH_ptn hh0 rfl (by first | decide | with_reducible assumption | omega) (by first | decide | with_reducible assumption | omega) (by first | decide | with_reducible assumption | omega)
  have fr1 : fr_g TM h0 (pt h0 77 0 (nJ 0)) := fr_ptr (l := 0) (u := 0) rfl (by first | decide | with_reducible assumption | omega) (by first | decide | with_reducible assumption | omega) (fr_rf TM h0)
  refine E_al rfl L0 ?_
  refine E_il rfl L1 ?_
  refine E_i2l rfl ?_
  refine E_call rfl (sp_isCar hh1) (chk77 hh1 rfl rfl (by show 0 ≤ 8; decide)) (fun h2 r2 => ?_)
  rintro ⟨e2, f2⟩
  rw [e2, f2]
  show Ends _ _ (11, lv, [.int (zb (0 ≤ x.toInt ∧ x.toInt ≤ (gn (pt h0 77 0 (nJ 0)) 84 3 : Int) - 1))], (pt h0 77 0 (nJ 0)), 0, 0) _
  by_cases hb3 : 0 ≤ x.toInt ∧ x.toInt ≤ (gn (pt h0 77 0 (nJ 0)) 84 3 : Int) - 1
  · refine E_ifT rfl (by rw [zb_T hb3]; rfl) ?_
    have hC8 : gn (pt h0 77 0 (nJ 0)) 84 3 ≤ 8 := gn_hi hh1 rfl (by decide)
    obtain ⟨k, hk, rfl⟩ := nJ_of2 (n := gn (pt h0 77 0 (nJ 0)) 84 3 - 1) hb3.1 (by have := hb3.2; have := hb3.1; omega)
    have hk2 : k < gn (pt h0 77 0 (nJ 0)) 84 3 := by have h9 := hb3.2; have h8 := hb3.1; rw [nJ_toInt (by first | decide | with_reducible assumption | omega)] at h9; omega
    refine E_al rfl L0 ?_
    refine E_call rfl (Sp_le (by first | exact Nat.add_le_add_left (Nat.le_of_ble_eq_true rfl) _ | exact Nat.le_of_ble_eq_true rfl | omega) (sp_lays (d := 0) hh1 (RI_fr hR rfl fr1))) (chk77 hh1 rfl rfl (by show 0 ≤ 8; decide)) (fun h4 r4 => ?_)
    rintro ⟨e4, hh4, fq4, wq4⟩
    rw [e4]
    have fr4 : fr_g TM h0 h4 := fr_trans fr1 (fr_wk rfl fq4)
    show Ends _ _ (21, lv, [], h4, 0, 0) _
    refine E_al rfl L0 ?_
    refine E_call rfl (Sp_le (by first | exact Nat.add_le_add_left (Nat.le_of_ble_eq_true rfl) _ | exact Nat.le_of_ble_eq_true rfl | omega) (sp_isLawful (d := 0) hh4)) (chk77 hh4 rfl rfl (by show 0 ≤ 8; decide)) (fun h5 r5 => ?_)
    rintro ⟨e5, f5⟩
    rw [e5]
    rcases f5 with f5 | ⟨f5, lw5⟩
    · rw [f5]
      show Ends _ _ (25, lv, [.int (nJ 0)], h4, 0, 0) _
      refine E_ifF rfl (by decide) ?_
      refine E_c rfl ?_
      exact E_rti rfl ⟨hh4, fr4, _, rfl⟩
    · rw [f5]
      show Ends _ _ (25, lv, [.int (nJ 1)], h4, 0, 0) _
      refine E_ifT rfl (by decide) ?_
      refine E_al rfl L0 ?_
      refine E_call rfl (Sp_le (by first | exact Nat.add_le_add_left (Nat.le_of_ble_eq_true rfl) _ | exact Nat.le_of_ble_eq_true rfl | omega) (sp_laysTree (d := 0) hh4 lw5 wq4)) (chk77 hh4 rfl rfl (by show 0 ≤ 8; decide)) (fun h6 r6 => ?_)
      rintro ⟨e6, hh6, fq6, dq6⟩
      rw [e6]
      have fr6 : fr_g TM h0 h6 := fr_trans fr4 (fr_wk rfl fq6)
      have pe6 : gn h6 84 0 = gn h4 84 3 := by rw [fr_gn fq6 (rg_no rfl _)]; exact lw5.1.symm
      show Ends _ _ (34, lv, [], h6, 0, 0) _
      refine E_ci 0 rfl ci0 ?_
      refine E_is rfl (fun lv7 L7_2 kp7 => ?_)
      have L7_0 := kp7 0 _ (nbz rfl) rfl L0
      have L7_1 := kp7 1 _ (nbz rfl) rfl L1
      refine E_il rfl L7_1 ?_
      refine E_ci 1 rfl ci1 ?_
      refine E_bin rfl (nJ_add _ _) ?_
      refine E_is rfl (fun lv8 L8_3 kp8 => ?_)
      have L8_0 := kp8 0 _ (nbz rfl) rfl L7_0
      have L8_1 := kp8 1 _ (nbz rfl) rfl L7_1
      have L8_2 := kp8 2 _ (nbz rfl) rfl L7_2
      have hdk := (fun v h1 h2 => (dq6 v h1 h2).1) (k + 1) (by first | decide | with_reducible assumption | omega) (by rw [fr_gn fq4 (rg_no rfl _)]; omega)
      rw [hg_gn] at hdk
      exact dp_loop hh6 fr6 8 lv8 (by first | decide | with_reducible assumption | omega) hdk L8_0 L8_2 L8_3
  · refine E_ifF rfl (by rw [zb_F hb3]; rfl) ?_
    refine E_c rfl ?_
    exact E_rti rfl ⟨hh1, fr1, _, rfl⟩
theorem lv_loop {h0 : pm_H} {d P : Nat} (hP8 : P ≤ 8) (j : Nat) : ∀ {h : pm_H} {b : Int32} {k : Nat} (lv : List (Nat × Value)), k + j = P + 1 → 1 ≤ k → HH h → fr_g TM h0 h → gn h 84 0 = P → pm_get lv 0 = some (.ref 77) → pm_get lv 1 = some (.int b) → pm_get lv 2 = some (.int (nJ k)) → Ends (pm_at tX9_leaves) (pm_Rt pm_P (d + 29)) (36, lv, [], h, 0, 0) (TQ h0) := by
  induction j with
  | zero =>
    intro h b k lv hj hk hh hfr hP L0 L1 L2
    refine E_il rfl L2 ?_
    refine E_al rfl L0 ?_
    refine E_call rfl (sp_places hh) (chk77 hh rfl rfl (by show 1 ≤ 8; decide)) (fun h1 r1 => ?_)
    rintro ⟨e1, f1, c1⟩
    rw [e1, f1]
    show Ends _ _ (41, lv, [.int (nJ (gn h 84 0)), .int (nJ k)], h, 0, 0) _
    refine E_icT rfl (decide_eq_true ((nJ_lt (by first | decide | with_reducible assumption | omega) (by first | decide | with_reducible assumption | omega)).mpr (by first | decide | with_reducible assumption | omega))) ?_
    refine E_il rfl L1 ?_
    exact E_rti rfl ⟨hh, hfr, _, rfl⟩
  | succ j ih =>
    intro h b k lv hj hk hh hfr hP L0 L1 L2
    refine E_il rfl L2 ?_
    refine E_al rfl L0 ?_
    refine E_call rfl (sp_places hh) (chk77 hh rfl rfl (by show 1 ≤ 8; decide)) (fun h1 r1 => ?_)
    rintro ⟨e1, f1, c1⟩
    rw [e1, f1]
    show Ends _ _ (41, lv, [.int (nJ (gn h 84 0)), .int (nJ k)], h, 0, 0) _
    refine E_icF rfl (decide_eq_false (fun q => absurd ((nJ_lt (by first | decide | with_reducible assumption | omega) (by first | decide | with_reducible assumption | omega)).mp q) (by first | decide | with_reducible assumption | omega))) ?_
    refine E_il rfl L1 ?_
    refine E_al rfl L0 ?_
    refine E_il rfl L2 ?_
    refine E_al rfl L0 ?_
    refine E_call rfl (sp_places hh) (chk77 hh rfl rfl (by show 3 ≤ 8; decide)) (fun h2 r2 => ?_)
    rintro ⟨e2, f2, c2⟩
    rw [e2, f2]
    show Ends _ _ (51, lv, [.int (nJ (gn h 84 0)), .int (nJ k), .ref 77, .int b], h, 0, 0) _
    refine E_call rfl (Sp_le (by first | exact Nat.add_le_add_left (Nat.le_of_ble_eq_true rfl) _ | exact Nat.le_of_ble_eq_true rfl | omega) (Sp_sum (as := [.ref 77, .int (nJ k), .int (nJ ((gn h 84 0)))]) q295 hh ⟨rfl, nJ_in (by first | decide | with_reducible assumption | omega) (by first | decide | with_reducible assumption | omega), nJ_in (by first | decide | with_reducible assumption | omega) (by first | decide | with_reducible assumption | omega), trivial⟩ (fun _ hq => absurd hq List.not_mem_nil) (fun _ hq => absurd hq List.not_mem_nil))) (chk77 hh rfl rfl (by show 1 ≤ 8; decide)) (fun h3 r3 => ?_)
    rintro ⟨hh3, fq3, C3, hC3, -, -, -, rv3⟩
    obtain ⟨x3, f3⟩ := rv_int295 hC3 rv3
    rw [f3]
    have fr3 : fr_g TM h0 h3 := fr_trans hfr (fr_wk rfl fq3)
    have pe3 : gn h3 84 0 = gn h 84 0 := fr_gn fq3 rfl
    show Ends _ _ (54, lv, [.int x3, .int b], h3, 0, 0) _
    by_cases hb4 : ¬ x3 = 0
    · refine E_ifT rfl (decide_eq_true hb4) ?_
      refine E_ci 0 rfl ci0 ?_
      refine E_bin rfl rfl ?_
      refine E_is rfl (fun lv5 L5_1 kp5 => ?_)
      have L5_0 := kp5 0 _ (nbz rfl) rfl L0
      have L5_2 := kp5 2 _ (nbz rfl) rfl L2
      refine E_inc rfl L5_2 (nJ_inc _) (fun lv6 L6_2 kp6 => ?_)
      have L6_0 := kp6 0 _ (nbz rfl) rfl L5_0
      have L6_1 := kp6 1 _ (nbz rfl) rfl L5_1
      refine E_goto rfl ?_
      exact ih lv6 (by first | decide | with_reducible assumption | omega) (by first | decide | with_reducible assumption | omega) hh3 fr3 (by rw [pe3]; exact hP) L6_0 L6_1 L6_2
    · refine E_ifF rfl (decide_eq_false hb4) ?_
      refine E_ci 1 rfl ci1 ?_
      refine E_il rfl L2 ?_
      refine E_ci 1 rfl ci1 ?_
      refine E_bin rfl (nJ_sub (by first | decide | with_reducible assumption | omega)) ?_
      refine E_bin rfl rfl ?_
      refine E_goto rfl ?_
      refine E_bin rfl rfl ?_
      refine E_is rfl (fun lv7 L7_1 kp7 => ?_)
      have L7_0 := kp7 0 _ (nbz rfl) rfl L0
      have L7_2 := kp7 2 _ (nbz rfl) rfl L2
      refine E_inc rfl L7_2 (nJ_inc _) (fun lv8 L8_2 kp8 => ?_)
      have L8_0 := kp8 0 _ (nbz rfl) rfl L7_0
      have L8_1 := kp8 1 _ (nbz rfl) rfl L7_1
      refine E_goto rfl ?_
      exact ih lv8 (by first | decide | with_reducible assumption | omega) (by first | decide | with_reducible assumption | omega) hh3 fr3 (by rw [pe3]; exact hP) L8_0 L8_1 L8_2
theorem tp_leaves {h0 : pm_H} {d : Nat} (hh0 : HH h0) (hR : RI 0 h0) : Sp (d + 30) 300 h0 [.ref 77] (TQ h0) := by
  refine Sp_of aiX9_leaves rfl rfl rfl ?_
  have L0 : pm_get (lv_args 0 [.ref 77]) 0 = some (.ref 77) := rfl
  generalize lv_args 0 [.ref 77] = lv at L0 ⊢
  refine E_al rfl L0 ?_
  refine E_ci 0 rfl ci0 ?_
  refine E_pf rfl hh0 rfl ?_
  have hh1 : HH (pt h0 77 0 (nJ 0)) := HH_ptn hh0 rfl (by first | decide | with_reducible assumption | omega) (by first | decide | with_reducible assumption | omega) (by first | decide | with_reducible assumption | omega)
  have fr1 : fr_g TM h0 (pt h0 77 0 (nJ 0)) := fr_ptr (l := 0) (u := 0) rfl (by first | decide | with_reducible assumption | omega) (by first | decide | with_reducible assumption | omega) (fr_rf TM h0)
  refine E_al rfl L0 ?_
  refine E_call rfl (sp_isStreet hh1) (chk77 hh1 rfl rfl (by show 0 ≤ 8; decide)) (fun h2 r2 => ?_)
  rintro ⟨e2, f2⟩
  rw [e2, f2]
  show Ends _ _ (9, lv, [.int (zb (0 < (gi (pt h0 77 0 (nJ 0)) 83 0).toInt))], (pt h0 77 0 (nJ 0)), 0, 0) _
  by_cases hb3 : 0 < (gi (pt h0 77 0 (nJ 0)) 83 0).toInt
  · refine E_ifT rfl (by rw [zb_T hb3]; rfl) ?_
    refine E_al rfl L0 ?_
    refine E_call rfl (Sp_le (by first | exact Nat.add_le_add_left (Nat.le_of_ble_eq_true rfl) _ | exact Nat.le_of_ble_eq_true rfl | omega) (sp_lays (d := 0) hh1 (RI_fr hR rfl fr1))) (chk77 hh1 rfl rfl (by show 0 ≤ 8; decide)) (fun h4 r4 => ?_)
    rintro ⟨e4, hh4, fq4, wq4⟩
    rw [e4]
    have fr4 : fr_g TM h0 h4 := fr_trans fr1 (fr_wk rfl fq4)
    show Ends _ _ (19, lv, [], h4, 0, 0) _
    refine E_al rfl L0 ?_
    refine E_call rfl (Sp_le (by first | exact Nat.add_le_add_left (Nat.le_of_ble_eq_true rfl) _ | exact Nat.le_of_ble_eq_true rfl | omega) (sp_isLawful (d := 0) hh4)) (chk77 hh4 rfl rfl (by show 0 ≤ 8; decide)) (fun h5 r5 => ?_)
    rintro ⟨e5, f5⟩
    rw [e5]
    rcases f5 with f5 | ⟨f5, lw5⟩
    · rw [f5]
      show Ends _ _ (23, lv, [.int (nJ 0)], h4, 0, 0) _
      refine E_ifF rfl (by decide) ?_
      refine E_c rfl ?_
      exact E_rti rfl ⟨hh4, fr4, _, rfl⟩
    · rw [f5]
      show Ends _ _ (23, lv, [.int (nJ 1)], h4, 0, 0) _
      refine E_ifT rfl (by decide) ?_
      refine E_al rfl L0 ?_
      refine E_call rfl (Sp_le (by first | exact Nat.add_le_add_left (Nat.le_of_ble_eq_true rfl) _ | exact Nat.le_of_ble_eq_true rfl | omega) (sp_laysTree (d := 0) hh4 lw5 wq4)) (chk77 hh4 rfl rfl (by show 0 ≤ 8; decide)) (fun h6 r6 => ?_)
      rintro ⟨e6, hh6, fq6, dq6⟩
      rw [e6]
      have fr6 : fr_g TM h0 h6 := fr_trans fr4 (fr_wk rfl fq6)
      have pe6 : gn h6 84 0 = gn h4 84 3 := by rw [fr_gn fq6 (rg_no rfl _)]; exact lw5.1.symm
      show Ends _ _ (32, lv, [], h6, 0, 0) _
      refine E_ci 0 rfl ci0 ?_
      refine E_is rfl (fun lv7 L7_1 kp7 => ?_)
      have L7_0 := kp7 0 _ (nbz rfl) rfl L0
      refine E_ci 1 rfl ci1 ?_
      refine E_is rfl (fun lv8 L8_2 kp8 => ?_)
      have L8_0 := kp8 0 _ (nbz rfl) rfl L7_0
      have L8_1 := kp8 1 _ (nbz rfl) rfl L7_1
      have hP8 : gn h6 84 0 ≤ 8 := gn_hi hh6 rfl (by decide)
      exact lv_loop hP8 (gn h6 84 0) (k := 1) lv8 (by first | decide | with_reducible assumption | omega) (by first | decide | with_reducible assumption | omega) hh6 fr6 rfl L8_0 L8_1 L8_2
  · refine E_ifF rfl (by rw [zb_F hb3]; rfl) ?_
    refine E_c rfl ?_
    exact E_rti rfl ⟨hh1, fr1, _, rfl⟩
end
section
/-! by hand: codes in slots (written by gen_t10.py) -/
theorem pI_eq {a P : Nat} (ha : a < 2147483648) (hP : P < 2147483648) : nJ a = pI P ↔ a + 1 = P := by
  cases P with
  | zero =>
    refine ⟨fun q => ?_, fun q => by omega⟩
    have h1 := congrArg Int32.toInt q
    rw [nJ_toInt ha] at h1
    have h2 : (pI 0).toInt = -1 := rfl
    omega
  | succ k =>
    show nJ a = nJ k ↔ _
    rw [nJ_eq ha (by first | decide | with_reducible assumption | omega)]
    omega
theorem l2i_nJ {x : Int64} (h0 : 0 ≤ x.toInt) (h1 : x.toInt ≤ 8) : x.toInt32 = nJ x.toInt.toNat := by
  apply Int32.toInt_inj.mp
  rw [nJ_toInt (by first | decide | with_reducible assumption | omega), Int64.toInt_toInt32]
  rw [Int.bmod_eq_of_le (by first | decide | with_reducible assumption | omega) (by first | decide | with_reducible assumption | omega)]
  omega
/-- a slot that holds a code -/
noncomputable def CD (h : pm_H) (sl : Nat) : Prop := sl ≤ 3 ∧ gn h 79 sl + 1 = gn h 84 0 ∧ ∀ i, i < gn h 79 sl → 0 ≤ (gl h 80 (60 * sl + i)).toInt ∧ (gl h 80 (60 * sl + i)).toInt ≤ (gn h 84 0 : Int)
theorem fr_gl {M : List Rng} {h h' : pm_H} {a k : Nat} (hf : fr_g M h h') (hM : rg_in M a k = false) : gl h' a k = gl h a k := by
  unfold gl
  rw [hf a k hM]
theorem wc_loop {h : pm_H} {d sl : Nat} {p : Prop} (hh : HH h) (hs : sl ≤ 3) (hm : gn h 79 sl + 1 = gn h 84 0) (hp : p) (j : Nat) : ∀ {i : Nat} (lv : List (Nat × Value)), i + j = gn h 79 sl → (∀ i1, i1 < i → 0 ≤ (gl h 80 (60 * sl + i1)).toInt ∧ (gl h 80 (60 * sl + i1)).toInt ≤ (gn h 84 0 : Int)) → pm_get lv 0 = some (.ref 77) → pm_get lv 1 = some (.int (nJ sl)) → pm_get lv 3 = some (.int (nJ i)) → Ends (pm_at tX9_whyNotCode) (pm_Rt pm_P (d + 3)) (54, lv, [], h, 0, 0) (fun h' r => h' = h ∧ ∃ y : Int32, r = some (.int y) ∧ (y = 0 → ∃ s2, nJ sl = nJ s2 ∧ CD h s2 ∧ p)) := by
  have hP8 : gn h 84 0 ≤ 8 := gn_hi hh rfl (by decide)
  induction j with
  | zero =>
    intro i lv hj hc L0 L1 L3
    refine E_il rfl L3 ?_
    refine E_al rfl L0 ?_
    refine E_gr rfl hh (q := 79) rfl ?_
    refine E_il rfl L1 ?_
    have b1 : gn h 79 sl ≤ 60 := gn_hi hh (bd_u rfl (by first | decide | with_reducible assumption | omega)) (by decide)
    refine E_ial rfl hh rfl (by first | decide | with_reducible assumption | omega) (by decide) (gi_gn hh (bd_u rfl (by first | decide | with_reducible assumption | omega)) (by decide)) ?_
    refine E_icT rfl (decide_eq_true ((nJ_le (by first | decide | with_reducible assumption | omega) (by first | decide | with_reducible assumption | omega)).mpr (by first | decide | with_reducible assumption | omega))) ?_
    refine E_ci 0 rfl ci0 ?_
    exact E_rti rfl ⟨rfl, _, rfl, fun _ => ⟨sl, rfl, ⟨hs, hm, fun i1 h1 => hc i1 (by first | decide | with_reducible assumption | omega)⟩, hp⟩⟩
  | succ j ih =>
    intro i lv hj hc L0 L1 L3
    refine E_il rfl L3 ?_
    refine E_al rfl L0 ?_
    refine E_gr rfl hh (q := 79) rfl ?_
    refine E_il rfl L1 ?_
    have b1 : gn h 79 sl ≤ 60 := gn_hi hh (bd_u rfl (by first | decide | with_reducible assumption | omega)) (by decide)
    refine E_ial rfl hh rfl (by first | decide | with_reducible assumption | omega) (by decide) (gi_gn hh (bd_u rfl (by first | decide | with_reducible assumption | omega)) (by decide)) ?_
    refine E_icF rfl (decide_eq_false (fun q => absurd ((nJ_le (by first | decide | with_reducible assumption | omega) (by first | decide | with_reducible assumption | omega)).mp q) (by first | decide | with_reducible assumption | omega))) ?_
    refine E_al rfl L0 ?_
    refine E_gr rfl hh (q := 80) rfl ?_
    refine E_ci 60 rfl ci60 ?_
    refine E_il rfl L1 ?_
    refine E_bin rfl (nJ_mul _ _) ?_
    refine E_il rfl L3 ?_
    refine E_bin rfl (nJ_add _ _) ?_
    refine E_lal rfl hh rfl (by first | decide | with_reducible assumption | omega) (by decide) ?_
    refine E_c rfl ?_
    refine E_al rfl L0 ?_
    refine E_call rfl (sp_places hh) (chk77 hh rfl rfl (by show 4 ≤ 8; decide)) (fun h2 r2 => ?_)
    rintro ⟨e2, f2, c2⟩
    rw [e2, f2]
    show Ends _ _ (80, lv, [.int (nJ (gn h 84 0)), .long (0), .long (gl h 80 (((60 * sl) + i)))], h, 0, 0) _
    refine E_i2l rfl ?_
    refine E_call rfl (sp_in (a := (gl h 80 (((60 * sl) + i))).toInt) (b := 0) (c := ((((gn h 84 0)) : Nat) : Int)) rfl rfl (i2l_nJ (by first | decide | with_reducible assumption | omega))) (chkS rfl (by show 0 ≤ 8; decide)) (fun h3 r3 => ?_)
    rintro ⟨e3, f3⟩
    rw [e3, f3]
    show Ends _ _ (84, lv, [.int (zb (0 ≤ (gl h 80 (((60 * sl) + i))).toInt ∧ (gl h 80 (((60 * sl) + i))).toInt ≤ ((((gn h 84 0)) : Nat) : Int)))], h, 0, 0) _
    by_cases hb4 : 0 ≤ (gl h 80 (((60 * sl) + i))).toInt ∧ (gl h 80 (((60 * sl) + i))).toInt ≤ ((((gn h 84 0)) : Nat) : Int)
    · refine E_ifT rfl (by rw [zb_T hb4]; rfl) ?_
      refine E_inc rfl L3 (nJ_inc _) (fun lv5 L5_3 kp5 => ?_)
      have L5_0 := kp5 0 _ (nbz rfl) rfl L0
      have L5_1 := kp5 1 _ (nbz rfl) rfl L1
      refine E_goto rfl ?_
      refine ih lv5 (by first | decide | with_reducible assumption | omega) (fun i1 h1 => ?_) L5_0 L5_1 L5_3
      by_cases e : i1 = i
      · subst e; exact hb4
      · exact hc i1 (by first | decide | with_reducible assumption | omega)
    · refine E_ifF rfl (by rw [zb_F hb4]; rfl) ?_
      refine E_c rfl ?_
      exact E_rti rfl ⟨rfl, _, rfl, fun q => absurd q (by decide)⟩
theorem sp_whyNotCode {h : pm_H} {d : Nat} {x : Int32} {p : Prop} [Decidable p] (hh : HH h) : Sp (d + 4) 373 h [.ref 77, .int x, .int (zb p)] (fun h' r => h' = h ∧ ∃ y : Int32, r = some (.int y) ∧ (y = 0 → ∃ sl, x = nJ sl ∧ CD h sl ∧ p)) := by
  refine Sp_of aiX9_whyNotCode rfl rfl rfl ?_
  have L0 : pm_get (lv_args 0 [.ref 77, .int x, .int (zb p)]) 0 = some (.ref 77) := rfl
  have L1 : pm_get (lv_args 0 [.ref 77, .int x, .int (zb p)]) 1 = some (.int x) := rfl
  have L2 : pm_get (lv_args 0 [.ref 77, .int x, .int (zb p)]) 2 = some (.int (zb p)) := rfl
  generalize lv_args 0 [.ref 77, .int x, .int (zb p)] = lv at L0 L1 L2 ⊢
  refine E_il rfl L1 ?_
  refine E_call rfl sp_isSlot (chkS rfl (by show 0 ≤ 8; decide)) (fun h1 r1 => ?_)
  rintro ⟨e1, f1⟩
  rw [e1, f1]
  show Ends _ _ (4, lv, [.int (zb (0 ≤ x.toInt ∧ x.toInt ≤ 3))], h, 0, 0) _
  by_cases hb2 : ¬ (0 ≤ x.toInt ∧ x.toInt ≤ 3)
  · refine E_ifT rfl (by rw [zb_F hb2]; rfl) ?_
    refine E_c rfl ?_
    exact E_rti rfl ⟨rfl, _, rfl, fun q => absurd q (by decide)⟩
  · refine E_ifF rfl (by rw [zb_T (Classical.not_not.mp hb2)]; rfl) ?_
    have hsl := Classical.not_not.mp hb2
    refine E_al rfl L0 ?_
    refine E_call rfl (sp_isStreet hh) (chk77 hh rfl rfl (by show 0 ≤ 8; decide)) (fun h3 r3 => ?_)
    rintro ⟨e3, f3⟩
    rw [e3, f3]
    show Ends _ _ (11, lv, [.int (zb (0 < (gi h 83 0).toInt))], h, 0, 0) _
    by_cases hb4 : ¬ (0 < (gi h 83 0).toInt)
    · refine E_ifT rfl (by rw [zb_F hb4]; rfl) ?_
      refine E_c rfl ?_
      exact E_rti rfl ⟨rfl, _, rfl, fun q => absurd q (by decide)⟩
    · refine E_ifF rfl (by rw [zb_T (Classical.not_not.mp hb4)]; rfl) ?_
      refine E_il rfl L2 ?_
      by_cases hb5 : p
      · refine E_ifT rfl (by rw [zb_T hb5]; rfl) ?_
        have hp := hb5
        obtain ⟨sl, hs, rfl⟩ := nJ_of2 (n := 3) hsl.1 hsl.2
        refine E_al rfl L0 ?_
        refine E_gr rfl hh (q := 78) rfl ?_
        refine E_il rfl L1 ?_
        refine E_ial rfl hh rfl (by first | decide | with_reducible assumption | omega) (by decide) (show gi h 78 sl = (gi h 78 sl) from rfl) ?_
        refine E_c rfl ?_
        by_cases hb6 : ¬ gi h 78 sl = -1
        · refine E_icT rfl (decide_eq_true hb6) ?_
          refine E_al rfl L0 ?_
          refine E_gr rfl hh (q := 79) rfl ?_
          refine E_il rfl L1 ?_
          have b7 : gn h 79 sl ≤ 60 := gn_hi hh (bd_u rfl (by first | decide | with_reducible assumption | omega)) (by decide)
          refine E_ial rfl hh rfl (by first | decide | with_reducible assumption | omega) (by decide) (gi_gn hh (bd_u rfl (by first | decide | with_reducible assumption | omega)) (by decide)) ?_
          refine E_al rfl L0 ?_
          refine E_call rfl (sp_places hh) (chk77 hh rfl rfl (by show 1 ≤ 8; decide)) (fun h8 r8 => ?_)
          rintro ⟨e8, f8, c8⟩
          rw [e8, f8]
          show Ends _ _ (44, lv, [.int (nJ (gn h 84 0)), .int (nJ (gn h 79 sl))], h, 0, 0) _
          refine E_ci 1 rfl ci1 ?_
          refine E_bin rfl (pI_of _) ?_
          by_cases hb9 : gn h 79 sl + 1 = gn h 84 0
          · refine E_icT rfl (decide_eq_true ((pI_eq (by first | decide | with_reducible assumption | omega) (by first | decide | with_reducible assumption | omega)).mpr hb9)) ?_
            refine E_ci 0 rfl ci0 ?_
            refine E_is rfl (fun lv10 L10_3 kp10 => ?_)
            have L10_0 := kp10 0 _ (nbz rfl) rfl L0
            have L10_1 := kp10 1 _ (nbz rfl) rfl L1
            have L10_2 := kp10 2 _ (nbz rfl) rfl L2
            exact wc_loop hh hs hb9 hp (gn h 79 sl) (i := 0) lv10 (by first | decide | with_reducible assumption | omega) (fun i1 h1 => absurd h1 (Nat.not_lt_zero _)) L10_0 L10_1 L10_3
          · refine E_icF rfl (decide_eq_false (fun q => hb9 ((pI_eq (by first | decide | with_reducible assumption | omega) (by first | decide | with_reducible assumption | omega)).mp q))) ?_
            refine E_c rfl ?_
            exact E_rti rfl ⟨rfl, _, rfl, fun q => absurd q (by decide)⟩
        · refine E_icF rfl (decide_eq_false hb6) ?_
          refine E_c rfl ?_
          exact E_rti rfl ⟨rfl, _, rfl, fun q => absurd q (by decide)⟩
      · refine E_ifF rfl (by rw [zb_F hb5]; rfl) ?_
        refine E_c rfl ?_
        exact E_rti rfl ⟨rfl, _, rfl, fun q => absurd q (by decide)⟩
noncomputable def SM : List Rng := [(92, 0, 8), (94, 0, 8), (95, 0, 7), (96, 0, 17)]
noncomputable def SQ (h0 h' : pm_H) (r : Option Value) : Prop := r = none ∧ HH h' ∧ fr_g SM h0 h' ∧ ∀ v, 1 ≤ v → v ≤ gn h0 84 0 → dep (hg h') 8 v ∧ gn h' 92 v ≤ gn h0 84 0
theorem ls_loop {h0 : pm_H} {d sl : Nat} (hh0 : HH h0) (hCD : CD h0 sl) (j : Nat) : ∀ {h : pm_H} {i : Nat} (lv : List (Nat × Value)), i + j = gn h0 79 sl → HH h → fr_g SM h0 h → (∀ i1, i1 < i → gn h 95 i1 ≤ gn h0 84 0) → pm_get lv 0 = some (.ref 77) → pm_get lv 1 = some (.int (nJ sl)) → pm_get lv 2 = some (.int (nJ i)) → Ends (pm_at tX9_laysSlot) (pm_Rt pm_P (d + 3)) (2, lv, [], h, 0, 0) (SQ h0) := by
  have hP8 : gn h0 84 0 ≤ 8 := gn_hi hh0 rfl (by decide)
  have hs := hCD.1
  have hmP := hCD.2.1
  induction j with
  | zero =>
    intro h i lv hj hh hfr hc L0 L1 L2
    have hpe : gn h 84 0 = gn h0 84 0 := fr_gn hfr (rg_no rfl _)
    refine E_il rfl L2 ?_
    refine E_al rfl L0 ?_
    refine E_gr rfl hh (q := 79) rfl ?_
    refine E_il rfl L1 ?_
    refine E_ial rfl hh rfl (by first | decide | with_reducible assumption | omega) (by decide) (show gi h 79 sl = nJ ((gn h0 79 sl)) from by rw [fr_gi hfr (rg_no rfl _)]; exact gi_gn hh0 (bd_u rfl (by first | decide | with_reducible assumption | omega)) (by decide)) ?_
    refine E_icT rfl (decide_eq_true ((nJ_le (by first | decide | with_reducible assumption | omega) (by first | decide | with_reducible assumption | omega)).mpr (by first | decide | with_reducible assumption | omega))) ?_
    refine E_al rfl L0 ?_
    refine E_al rfl L0 ?_
    refine E_call rfl (sp_places hh) (chk77 hh rfl rfl (by show 1 ≤ 8; decide)) (fun h1 r1 => ?_)
    rintro ⟨e1, f1, c1⟩
    rw [e1, f1]
    show Ends _ _ (41, lv, [.int (nJ (gn h 84 0)), .ref 77], h, 0, 0) _
    refine E_ci 1 rfl ci1 ?_
    refine E_bin rfl (nJ_add _ _) ?_
    refine E_call rfl (sp_reads0 (N := gn h 84 0 + 1) hh (by first | decide | with_reducible assumption | omega) (by first | decide | with_reducible assumption | omega) (fun j hj => by have := hc j (by first | decide | with_reducible assumption | omega); omega)) (chk77 hh rfl rfl (by show 0 ≤ 8; decide)) (fun h9 r9 => ?_)
    rintro ⟨e9, hh9, fr9, q9⟩
    rw [e9]
    show Ends _ _ (46, lv, [], h9, 0, 0) _
    exact E_ret rfl ⟨rfl, hh9, fr_trans hfr (fr_wk rfl fr9), fun v h1 h2 => by have := q9 v h1 (by first | decide | with_reducible assumption | omega); exact ⟨this.1, by omega⟩⟩
  | succ j ih =>
    intro h i lv hj hh hfr hc L0 L1 L2
    have hpe : gn h 84 0 = gn h0 84 0 := fr_gn hfr (rg_no rfl _)
    refine E_il rfl L2 ?_
    refine E_al rfl L0 ?_
    refine E_gr rfl hh (q := 79) rfl ?_
    refine E_il rfl L1 ?_
    refine E_ial rfl hh rfl (by first | decide | with_reducible assumption | omega) (by decide) (show gi h 79 sl = nJ ((gn h0 79 sl)) from by rw [fr_gi hfr (rg_no rfl _)]; exact gi_gn hh0 (bd_u rfl (by first | decide | with_reducible assumption | omega)) (by decide)) ?_
    refine E_icF rfl (decide_eq_false (fun q => absurd ((nJ_le (by first | decide | with_reducible assumption | omega) (by first | decide | with_reducible assumption | omega)).mp q) (by first | decide | with_reducible assumption | omega))) ?_
    have hci := hCD.2.2 i (by first | decide | with_reducible assumption | omega)
    have hgl : gl h 80 (60 * sl + i) = gl h0 80 (60 * sl + i) := fr_gl hfr (rg_no rfl _)
    refine E_al rfl L0 ?_
    refine E_gr rfl hh (q := 95) rfl ?_
    refine E_il rfl L2 ?_
    refine E_al rfl L0 ?_
    refine E_gr rfl hh (q := 80) rfl ?_
    refine E_ci 60 rfl ci60 ?_
    refine E_il rfl L1 ?_
    refine E_bin rfl (nJ_mul _ _) ?_
    refine E_il rfl L2 ?_
    refine E_bin rfl (nJ_add _ _) ?_
    refine E_lal rfl hh rfl (by first | decide | with_reducible assumption | omega) (by decide) ?_
    refine E_l2i rfl (show (gl h 80 (((60 * sl) + i))).toInt32 = nJ (gl h0 80 (60 * sl + i)).toInt.toNat from (by rw [hgl]; exact l2i_nJ hci.1 (by first | decide | with_reducible assumption | omega))) ?_
    refine E_ias rfl hh rfl (by first | decide | with_reducible assumption | omega) (by decide) ?_
    have hh1 : HH (pt h 95 i (nJ ((gl h0 80 (60 * sl + i)).toInt.toNat))) := HH_ptn hh (bd_u rfl (by first | decide | with_reducible assumption | omega)) (by first | decide | with_reducible assumption | omega) (by first | decide | with_reducible assumption | omega) (by first | decide | with_reducible assumption | omega)
    refine E_inc rfl L2 (nJ_inc _) (fun lv2 L2_2 kp2 => ?_)
    have L2_0 := kp2 0 _ (nbz rfl) rfl L0
    have L2_1 := kp2 1 _ (nbz rfl) rfl L1
    refine E_goto rfl ?_
    refine ih lv2 (by first | decide | with_reducible assumption | omega) hh1 (fr_ptr (l := 0) (u := 7) rfl (by first | decide | with_reducible assumption | omega) (by first | decide | with_reducible assumption | omega) hfr) (fun i1 h1 => ?_) L2_0 L2_1 L2_2
    by_cases e : i1 = i
    · rw [e, gn_ptn hh (bd_u rfl (by first | decide | with_reducible assumption | omega)) (by first | decide | with_reducible assumption | omega) (by first | decide | with_reducible assumption | omega) (by first | decide | with_reducible assumption | omega)]; omega
    · rw [gn_ne (fun _ => e)]; exact hc i1 (by first | decide | with_reducible assumption | omega)
theorem sp_laysSlot {h0 : pm_H} {d sl : Nat} (hh : HH h0) (hCD : CD h0 sl) : Sp (d + 4) 298 h0 [.ref 77, .int (nJ sl)] (SQ h0) := by
  refine Sp_of aiX9_laysSlot rfl rfl rfl ?_
  refine E_ci 0 rfl ci0 ?_
  refine E_is rfl (fun lv1 L1_2 kp1 => ?_)
  have L1_0 := kp1 0 _ (nbz rfl) rfl (show pm_get (lv_args 0 [.ref 77, .int (nJ sl)]) 0 = _ from rfl)
  have L1_1 := kp1 1 _ (nbz rfl) rfl (show pm_get (lv_args 0 [.ref 77, .int (nJ sl)]) 1 = _ from rfl)
  exact ls_loop hh hCD (gn h0 79 sl) (i := 0) lv1 (by first | decide | with_reducible assumption | omega) hh (fr_rf _ _) (fun i1 h1 => absurd h1 (Nat.not_lt_zero _)) L1_0 L1_1 L1_2
theorem tp_above {h0 : pm_H} {d : Nat} {x y : Int32} (hh0 : HH h0) (hR : RI 0 h0) : Sp (d + 30) 204 h0 [.ref 77, .int x, .int y] (TQ h0) := by
  refine Sp_of aiX9_above rfl rfl rfl ?_
  have L0 : pm_get (lv_args 0 [.ref 77, .int x, .int y]) 0 = some (.ref 77) := rfl
  have L1 : pm_get (lv_args 0 [.ref 77, .int x, .int y]) 1 = some (.int x) := rfl
  have L2 : pm_get (lv_args 0 [.ref 77, .int x, .int y]) 2 = some (.int y) := rfl
  generalize lv_args 0 [.ref 77, .int x, .int y] = lv at L0 L1 L2 ⊢
  refine E_al rfl L0 ?_
  refine E_ci 0 rfl ci0 ?_
  refine E_pf rfl hh0 rfl ?_
  have hh1 : HH (pt h0 77 0 (nJ 0)) := HH_ptn hh0 rfl (by first | decide | with_reducible assumption | omega) (by first | decide | with_reducible assumption | omega) (by first | decide | with_reducible assumption | omega)
  have fr1 : fr_g TM h0 (pt h0 77 0 (nJ 0)) := fr_ptr (l := 0) (u := 0) rfl (by first | decide | with_reducible assumption | omega) (by first | decide | with_reducible assumption | omega) (fr_rf TM h0)
  refine E_al rfl L0 ?_
  refine E_il rfl L1 ?_
  refine E_il rfl L2 ?_
  refine E_i2l rfl ?_
  refine E_c rfl ?_
  refine E_al rfl L0 ?_
  refine E_call rfl (sp_places hh1) (chk77 hh1 rfl rfl (by show 6 ≤ 8; decide)) (fun h2 r2 => ?_)
  rintro ⟨e2, f2, c2⟩
  rw [e2, f2]
  show Ends _ _ (14, lv, [.int (nJ (gn (pt h0 77 0 (nJ 0)) 84 0)), .long (0), .long (y).toInt64, .int x, .ref 77], (pt h0 77 0 (nJ 0)), 0, 0) _
  refine E_i2l rfl ?_
  refine E_c rfl ?_
  refine E_lbin rfl ?_
  refine E_call rfl (sp_in (a := y.toInt) (b := 0) (c := (((((gn (pt h0 77 0 (nJ 0)) 84 0)) : Nat) : Int) - 1)) (i2l_toInt _) rfl (i2l_sub1 (by first | decide | with_reducible assumption | omega))) (chkS rfl (by show 2 ≤ 8; decide)) (fun h3 r3 => ?_)
  rintro ⟨e3, f3⟩
  rw [e3, f3]
  show Ends _ _ (20, lv, [.int (zb (0 ≤ y.toInt ∧ y.toInt ≤ (((((gn (pt h0 77 0 (nJ 0)) 84 0)) : Nat) : Int) - 1))), .int x, .ref 77], (pt h0 77 0 (nJ 0)), 0, 0) _
  refine E_call rfl (Sp_le (by first | exact Nat.add_le_add_left (Nat.le_of_ble_eq_true rfl) _ | exact Nat.le_of_ble_eq_true rfl | omega) (sp_whyNotCode (d := 0) (p := 0 ≤ y.toInt ∧ y.toInt ≤ (((((gn (pt h0 77 0 (nJ 0)) 84 0)) : Nat) : Int) - 1)) hh1)) (chk77 hh1 rfl rfl (by show 0 ≤ 8; decide)) (fun h4 r4 => ?_)
  rintro ⟨e4, y4, f4, g4⟩
  rw [e4, f4]
  show Ends _ _ (23, lv, [.int y4], (pt h0 77 0 (nJ 0)), 0, 0) _
  refine E_is rfl (fun lv5 L5_3 kp5 => ?_)
  have L5_0 := kp5 0 _ (nbz rfl) rfl L0
  have L5_1 := kp5 1 _ (nbz rfl) rfl L1
  have L5_2 := kp5 2 _ (nbz rfl) rfl L2
  refine E_il rfl L5_3 ?_
  by_cases hb6 : y4 = 0
  · refine E_ifT rfl (decide_eq_true hb6) ?_
    obtain ⟨sl, rfl, hCD, hpp⟩ := g4 hb6
    have hP8 : gn (pt h0 77 0 (nJ 0)) 84 0 ≤ 8 := gn_hi hh1 rfl (by decide)
    obtain ⟨k, hk, rfl⟩ := nJ_of2 (n := gn (pt h0 77 0 (nJ 0)) 84 0 - 1) hpp.1 (by have h9 := hpp.2; have h8 := hpp.1; have h7 := hCD.2.1; omega)
    have hk2 : k < gn (pt h0 77 0 (nJ 0)) 84 0 := by have h7 := hCD.2.1; omega
    refine E_al rfl L5_0 ?_
    refine E_il rfl L5_1 ?_
    refine E_call rfl (Sp_le (by first | exact Nat.add_le_add_left (Nat.le_of_ble_eq_true rfl) _ | exact Nat.le_of_ble_eq_true rfl | omega) (sp_laysSlot (d := 0) hh1 hCD)) (chk77 hh1 rfl rfl (by show 0 ≤ 8; decide)) (fun h7 r7 => ?_)
    rintro ⟨e7, hh7, fq7, dq7⟩
    rw [e7]
    have fr7 : fr_g TM h0 h7 := fr_trans fr1 (fr_wk rfl fq7)
    have pe7 : gn h7 84 0 = gn (pt h0 77 0 (nJ 0)) 84 0 := fr_gn fq7 (rg_no rfl _)
    show Ends _ _ (35, lv5, [], h7, 0, 0) _
    refine E_al rfl L5_0 ?_
    refine E_gr rfl hh7 (q := 92) rfl ?_
    refine E_il rfl L5_2 ?_
    refine E_ci 1 rfl ci1 ?_
    refine E_bin rfl (nJ_add _ _) ?_
    have b8 : gn h7 92 ((k + 1)) ≤ 8 := gn_hi hh7 (bd_u rfl (by first | decide | with_reducible assumption | omega)) (by decide)
    refine E_ial rfl hh7 rfl (by first | decide | with_reducible assumption | omega) (by decide) (gi_gn hh7 (bd_u rfl (by first | decide | with_reducible assumption | omega)) (by decide)) ?_
    exact E_rti rfl ⟨hh7, fr7, _, rfl⟩
  · refine E_ifF rfl (decide_eq_false hb6) ?_
    refine E_il rfl L5_3 ?_
    exact E_rti rfl ⟨hh1, fr1, _, rfl⟩
theorem tp_upset {h0 : pm_H} {d : Nat} {x : Int32} (hh0 : HH h0) (hR : RI 0 h0) : Sp (d + 30) 367 h0 [.ref 77, .int x] (TQ h0) := by
  refine Sp_of aiX9_upset rfl rfl rfl ?_
  have L0 : pm_get (lv_args 0 [.ref 77, .int x]) 0 = some (.ref 77) := rfl
  have L1 : pm_get (lv_args 0 [.ref 77, .int x]) 1 = some (.int x) := rfl
  generalize lv_args 0 [.ref 77, .int x] = lv at L0 L1 ⊢
  refine E_al rfl L0 ?_
  refine E_ci 0 rfl ci0 ?_
  refine E_pf rfl hh0 rfl ?_
  have hh1 : HH (pt h0 77 0 (nJ 0)) := HH_ptn hh0 rfl (by first | decide | with_reducible assumption | omega) (by first | decide | with_reducible assumption | omega) (by first | decide | with_reducible assumption | omega)
  have fr1 : fr_g TM h0 (pt h0 77 0 (nJ 0)) := fr_ptr (l := 0) (u := 0) rfl (by first | decide | with_reducible assumption | omega) (by first | decide | with_reducible assumption | omega) (fr_rf TM h0)
  refine E_al rfl L0 ?_
  refine E_il rfl L1 ?_
  refine E_ci 1 rfl ci1 ?_
  refine E_call rfl (Sp_le (by first | exact Nat.add_le_add_left (Nat.le_of_ble_eq_true rfl) _ | exact Nat.le_of_ble_eq_true rfl | omega) (sp_whyNotCode (d := 0) (p := True) hh1)) (chk77 hh1 rfl rfl (by show 0 ≤ 8; decide)) (fun h2 r2 => ?_)
  rintro ⟨e2, y2, f2, g2⟩
  rw [e2, f2]
  show Ends _ _ (11, lv, [.int y2], (pt h0 77 0 (nJ 0)), 0, 0) _
  refine E_is rfl (fun lv3 L3_2 kp3 => ?_)
  have L3_0 := kp3 0 _ (nbz rfl) rfl L0
  have L3_1 := kp3 1 _ (nbz rfl) rfl L1
  refine E_il rfl L3_2 ?_
  by_cases hb4 : y2 = 0
  · refine E_ifT rfl (decide_eq_true hb4) ?_
    obtain ⟨sl, rfl, hCD, hpp⟩ := g2 hb4
    have hP8 : gn (pt h0 77 0 (nJ 0)) 84 0 ≤ 8 := gn_hi hh1 rfl (by decide)
    refine E_al rfl L3_0 ?_
    refine E_il rfl L3_1 ?_
    refine E_call rfl (Sp_le (by first | exact Nat.add_le_add_left (Nat.le_of_ble_eq_true rfl) _ | exact Nat.le_of_ble_eq_true rfl | omega) (sp_laysSlot (d := 0) hh1 hCD)) (chk77 hh1 rfl rfl (by show 0 ≤ 8; decide)) (fun h5 r5 => ?_)
    rintro ⟨e5, hh5, fq5, dq5⟩
    rw [e5]
    have fr5 : fr_g TM h0 h5 := fr_trans fr1 (fr_wk rfl fq5)
    have pe5 : gn h5 84 0 = gn (pt h0 77 0 (nJ 0)) 84 0 := fr_gn fq5 (rg_no rfl _)
    show Ends _ _ (23, lv3, [], h5, 0, 0) _
    refine E_al rfl L3_0 ?_
    refine E_al rfl L3_0 ?_
    refine E_call rfl (sp_places hh5) (chk77 hh5 rfl rfl (by show 1 ≤ 8; decide)) (fun h6 r6 => ?_)
    rintro ⟨e6, f6, c6⟩
    rw [e6, f6]
    show Ends _ _ (28, lv3, [.int (nJ (gn h5 84 0)), .ref 77], h5, 0, 0) _
    refine E_call rfl (Sp_le (by first | exact Nat.add_le_add_left (Nat.le_of_ble_eq_true rfl) _ | exact Nat.le_of_ble_eq_true rfl | omega) (sp_turnedIn (d := 0) hh5 (by first | decide | with_reducible assumption | omega) (fun v h1 h2 => (fun v h1 h2 => (dq5 v h1 h2).1) v h1 (by first | decide | with_reducible assumption | omega)))) (chk77 hh5 rfl rfl (by show 0 ≤ 8; decide)) (fun h7 r7 => ?_)
    rintro ⟨e7, x7, f7⟩
    rw [e7, f7]
    show Ends _ _ (31, lv3, [.int x7], h5, 0, 0) _
    exact E_rti rfl ⟨hh5, fr5, _, rfl⟩
  · refine E_ifF rfl (decide_eq_false hb4) ?_
    refine E_il rfl L3_2 ?_
    exact E_rti rfl ⟨hh1, fr1, _, rfl⟩
theorem rg_loop {h0 : pm_H} {d P k : Nat} (hP8 : P ≤ 8) (hk : k < P) (j : Nat) : ∀ {h : pm_H} {i : Nat} (lv : List (Nat × Value)), i + j = P → HH h → fr_g TM h0 h → gn h 84 0 = P → pm_get lv 0 = some (.ref 77) → pm_get lv 2 = some (.int (nJ k)) → pm_get lv 4 = some (.int (nJ i)) → Ends (pm_at tX9_regain) (pm_Rt pm_P (d + 29)) (38, lv, [], h, 0, 0) (TQ h0) := by
  induction j with
  | zero =>
    intro h i lv hj hh hfr hP L0 L2 L4
    refine E_il rfl L4 ?_
    refine E_al rfl L0 ?_
    refine E_call rfl (sp_places hh) (chk77 hh rfl rfl (by show 1 ≤ 8; decide)) (fun h1 r1 => ?_)
    rintro ⟨e1, f1, c1⟩
    rw [e1, f1]
    show Ends _ _ (44, lv, [.int (nJ (gn h 84 0)), .int (nJ i)], h, 0, 0) _
    refine E_icT rfl (decide_eq_true ((nJ_le (by first | decide | with_reducible assumption | omega) (by first | decide | with_reducible assumption | omega)).mpr (by first | decide | with_reducible assumption | omega))) ?_
    refine E_al rfl L0 ?_
    refine E_ci 0 rfl ci0 ?_
    refine E_pf rfl hh rfl ?_
    have hh2 : HH (pt h 77 35 (nJ 0)) := HH_ptn hh rfl (by first | decide | with_reducible assumption | omega) (by first | decide | with_reducible assumption | omega) (by first | decide | with_reducible assumption | omega)
    have fr2 : fr_g TM h0 (pt h 77 35 (nJ 0)) := fr_ptr (l := 35) (u := 35) rfl (by first | decide | with_reducible assumption | omega) (by first | decide | with_reducible assumption | omega) hfr
    refine E_al rfl L0 ?_
    refine E_ci 0 rfl ci0 ?_
    refine E_call rfl (Sp_le (by first | exact Nat.add_le_add_left (Nat.le_of_ble_eq_true rfl) _ | exact Nat.le_of_ble_eq_true rfl | omega) (sp_counts0 (P := gn (pt h 77 35 (nJ 0)) 84 0) (by rw [gn_ne (by first | exact gxx rfl | omega)]; omega) 8 _ 0 0 hh2 rfl (gi_pt hh rfl (ai_lo _) (ai_hi _)) (by first | decide | with_reducible assumption | omega) (by rw [gn_ne (by first | exact gxx rfl | omega)]; omega) (by first | decide | with_reducible assumption | omega))) (chk77 hh2 rfl rfl (by show 0 ≤ 8; decide)) (fun h3 r3 => ?_)
    rintro ⟨e3, hh3, fq3, -⟩
    rw [e3]
    have fr3 : fr_g TM h0 h3 := fr_trans fr2 (fr_wk rfl fq3)
    show Ends _ _ (71, lv, [], h3, 0, 0) _
    refine E_al rfl L0 ?_
    refine E_gr rfl hh3 (q := 97) rfl ?_
    refine E_il rfl L2 ?_
    refine E_ial rfl hh3 rfl (by first | decide | with_reducible assumption | omega) (by decide) (show gi h3 97 k = (gi h3 97 k) from rfl) ?_
    refine E_ci 1 rfl ci1 ?_
    refine E_bin rfl rfl ?_
    exact E_rti rfl ⟨hh3, fr3, _, rfl⟩
  | succ j ih =>
    intro h i lv hj hh hfr hP L0 L2 L4
    refine E_il rfl L4 ?_
    refine E_al rfl L0 ?_
    refine E_call rfl (sp_places hh) (chk77 hh rfl rfl (by show 1 ≤ 8; decide)) (fun h1 r1 => ?_)
    rintro ⟨e1, f1, c1⟩
    rw [e1, f1]
    show Ends _ _ (44, lv, [.int (nJ (gn h 84 0)), .int (nJ i)], h, 0, 0) _
    refine E_icF rfl (decide_eq_false (fun q => absurd ((nJ_le (by first | decide | with_reducible assumption | omega) (by first | decide | with_reducible assumption | omega)).mp q) (by first | decide | with_reducible assumption | omega))) ?_
    refine E_al rfl L0 ?_
    refine E_gr rfl hh (q := 97) rfl ?_
    refine E_il rfl L4 ?_
    refine E_ci 0 rfl ci0 ?_
    refine E_ias rfl hh rfl (by first | decide | with_reducible assumption | omega) (by decide) ?_
    have hh2 : HH (pt h 97 i (nJ 0)) := HH_ptn hh (bd_u rfl (by first | decide | with_reducible assumption | omega)) (by first | decide | with_reducible assumption | omega) (by first | decide | with_reducible assumption | omega) (by first | decide | with_reducible assumption | omega)
    have fr2 : fr_g TM h0 (pt h 97 i (nJ 0)) := fr_ptr (l := 0) (u := 7) rfl (by first | decide | with_reducible assumption | omega) (by first | decide | with_reducible assumption | omega) hfr
    refine E_inc rfl L4 (nJ_inc _) (fun lv3 L3_4 kp3 => ?_)
    have L3_0 := kp3 0 _ (nbz rfl) rfl L0
    have L3_2 := kp3 2 _ (nbz rfl) rfl L2
    refine E_goto rfl ?_
    exact ih lv3 (by first | decide | with_reducible assumption | omega) hh2 fr2 (by rw [gn_ne (by first | exact gxx rfl | omega)]; exact hP) L3_0 L3_2 L3_4
theorem tp_regain {h0 : pm_H} {d : Nat} {x y : Int32} (hh0 : HH h0) (hR : RI 0 h0) : Sp (d + 30) 331 h0 [.ref 77, .int x, .int y] (TQ h0) := by
  refine Sp_of aiX9_regain rfl rfl rfl ?_
  have L0 : pm_get (lv_args 0 [.ref 77, .int x, .int y]) 0 = some (.ref 77) := rfl
  have L1 : pm_get (lv_args 0 [.ref 77, .int x, .int y]) 1 = some (.int x) := rfl
  have L2 : pm_get (lv_args 0 [.ref 77, .int x, .int y]) 2 = some (.int y) := rfl
  generalize lv_args 0 [.ref 77, .int x, .int y] = lv at L0 L1 L2 ⊢
  refine E_al rfl L0 ?_
  refine E_ci 0 rfl ci0 ?_
  refine E_pf rfl hh0 rfl ?_
  have hh1 : HH (pt h0 77 0 (nJ 0)) := HH_ptn hh0 rfl (by first | decide | with_reducible assumption | omega) (by first | decide | with_reducible assumption | omega) (by first | decide | with_reducible assumption | omega)
  have fr1 : fr_g TM h0 (pt h0 77 0 (nJ 0)) := fr_ptr (l := 0) (u := 0) rfl (by first | decide | with_reducible assumption | omega) (by first | decide | with_reducible assumption | omega) (fr_rf TM h0)
  refine E_al rfl L0 ?_
  refine E_il rfl L1 ?_
  refine E_il rfl L2 ?_
  refine E_i2l rfl ?_
  refine E_c rfl ?_
  refine E_al rfl L0 ?_
  refine E_call rfl (sp_places hh1) (chk77 hh1 rfl rfl (by show 6 ≤ 8; decide)) (fun h2 r2 => ?_)
  rintro ⟨e2, f2, c2⟩
  rw [e2, f2]
  show Ends _ _ (14, lv, [.int (nJ (gn (pt h0 77 0 (nJ 0)) 84 0)), .long (0), .long (y).toInt64, .int x, .ref 77], (pt h0 77 0 (nJ 0)), 0, 0) _
  refine E_i2l rfl ?_
  refine E_c rfl ?_
  refine E_lbin rfl ?_
  refine E_call rfl (sp_in (a := y.toInt) (b := 0) (c := (((((gn (pt h0 77 0 (nJ 0)) 84 0)) : Nat) : Int) - 1)) (i2l_toInt _) rfl (i2l_sub1 (by first | decide | with_reducible assumption | omega))) (chkS rfl (by show 2 ≤ 8; decide)) (fun h3 r3 => ?_)
  rintro ⟨e3, f3⟩
  rw [e3, f3]
  show Ends _ _ (20, lv, [.int (zb (0 ≤ y.toInt ∧ y.toInt ≤ (((((gn (pt h0 77 0 (nJ 0)) 84 0)) : Nat) : Int) - 1))), .int x, .ref 77], (pt h0 77 0 (nJ 0)), 0, 0) _
  refine E_call rfl (Sp_le (by first | exact Nat.add_le_add_left (Nat.le_of_ble_eq_true rfl) _ | exact Nat.le_of_ble_eq_true rfl | omega) (sp_whyNotCode (d := 0) (p := 0 ≤ y.toInt ∧ y.toInt ≤ (((((gn (pt h0 77 0 (nJ 0)) 84 0)) : Nat) : Int) - 1)) hh1)) (chk77 hh1 rfl rfl (by show 0 ≤ 8; decide)) (fun h4 r4 => ?_)
  rintro ⟨e4, y4, f4, g4⟩
  rw [e4, f4]
  show Ends _ _ (23, lv, [.int y4], (pt h0 77 0 (nJ 0)), 0, 0) _
  refine E_is rfl (fun lv5 L5_3 kp5 => ?_)
  have L5_0 := kp5 0 _ (nbz rfl) rfl L0
  have L5_1 := kp5 1 _ (nbz rfl) rfl L1
  have L5_2 := kp5 2 _ (nbz rfl) rfl L2
  refine E_il rfl L5_3 ?_
  by_cases hb6 : y4 = 0
  · refine E_ifT rfl (decide_eq_true hb6) ?_
    obtain ⟨sl, rfl, hCD, hpp⟩ := g4 hb6
    have hP8 : gn (pt h0 77 0 (nJ 0)) 84 0 ≤ 8 := gn_hi hh1 rfl (by decide)
    obtain ⟨k, hk, rfl⟩ := nJ_of2 (n := gn (pt h0 77 0 (nJ 0)) 84 0 - 1) hpp.1 (by have h9 := hpp.2; have h8 := hpp.1; have h7 := hCD.2.1; omega)
    have hk2 : k < gn (pt h0 77 0 (nJ 0)) 84 0 := by have h7 := hCD.2.1; omega
    refine E_al rfl L5_0 ?_
    refine E_il rfl L5_1 ?_
    refine E_call rfl (Sp_le (by first | exact Nat.add_le_add_left (Nat.le_of_ble_eq_true rfl) _ | exact Nat.le_of_ble_eq_true rfl | omega) (sp_laysSlot (d := 0) hh1 hCD)) (chk77 hh1 rfl rfl (by show 0 ≤ 8; decide)) (fun h7 r7 => ?_)
    rintro ⟨e7, hh7, fq7, dq7⟩
    rw [e7]
    have fr7 : fr_g TM h0 h7 := fr_trans fr1 (fr_wk rfl fq7)
    have pe7 : gn h7 84 0 = gn (pt h0 77 0 (nJ 0)) 84 0 := fr_gn fq7 (rg_no rfl _)
    show Ends _ _ (35, lv5, [], h7, 0, 0) _
    refine E_ci 0 rfl ci0 ?_
    refine E_is rfl (fun lv8 L8_4 kp8 => ?_)
    have L8_0 := kp8 0 _ (nbz rfl) rfl L5_0
    have L8_1 := kp8 1 _ (nbz rfl) rfl L5_1
    have L8_2 := kp8 2 _ (nbz rfl) rfl L5_2
    have L8_3 := kp8 3 _ (nbz rfl) rfl L5_3
    exact rg_loop (P := gn h7 84 0) (by first | decide | with_reducible assumption | omega) (by first | decide | with_reducible assumption | omega) (gn h7 84 0) (i := 0) lv8 (by first | decide | with_reducible assumption | omega) hh7 fr7 rfl L8_0 L8_2 L8_4
  · refine E_ifF rfl (decide_eq_false hb6) ?_
    refine E_il rfl L5_3 ?_
    exact E_rti rfl ⟨hh1, fr1, _, rfl⟩
end
