section
/-! by hand: the common divisor (a recursion that halves) -/
theorem cm_ifT {look : Nat → Option pm_I} {call : pm_Call} {z : Bool} {t n : Nat} {ρ : List (Nat × Value) × List Value × pm_H × Nat × Nat} {o : pm_H × Option Value} (hz : z = true) (k : pm_Go look call (t, ρ) o) : pm_Go look call (bif z then t else n, ρ) o := by subst hz; exact k
theorem cm_ifF {look : Nat → Option pm_I} {call : pm_Call} {z : Bool} {t n : Nat} {ρ : List (Nat × Value) × List Value × pm_H × Nat × Nat} {o : pm_H × Option Value} (hz : z = false) (k : pm_Go look call (n, ρ) o) : pm_Go look call (bif z then t else n, ρ) o := by subst hz; exact k
theorem cm_rem {a b : Int64} {d : Nat} {h : pm_H} {g : Int64} (hb : ¬ b = 0) (hc : pm_Rt pm_P d 230 h [.long b, .long (a - a / b * b)] h (some (.long g))) : pm_Rt pm_P (d + 1) 230 h [.long a, .long b] h (some (.long g)) := by
  refine ⟨iX9_common, aiX9_common, by show 4 ≤ 4; exact Nat.le_refl 4, ?_⟩
  have hcmp : ¬ lg_cmp b 0 = 0 := fun e => hb ((lg_cmp_eq b 0).mp e)
  show pm_Go (pm_at tX9_common) (pm_Rt pm_P d) (0, [(0, .long a), (2, .long b)], [], h, 0, 0) (h, some (.long g))
  refine Go_st (σ' := (1, [(0, .long a), (2, .long b)], [.long b], h, 0, 0)) rfl rfl ?_
  refine Go_st (σ' := (2, [(0, .long a), (2, .long b)], [.long 0, .long b], h, 0, 0)) rfl rfl ?_
  refine Go_st (σ' := (3, [(0, .long a), (2, .long b)], [.int (lg_cmp b 0)], h, 0, 0)) rfl rfl ?_
  refine Go_st (σ' := (bif decide (¬ lg_cmp b 0 = 0) then 21 else 6, [(0, .long a), (2, .long b)], [], h, 0, 0)) rfl rfl ?_
  refine cm_ifT (decide_eq_true hcmp) ?_
  refine Go_st (σ' := (22, [(0, .long a), (2, .long b)], [.long b], h, 0, 0)) rfl rfl ?_
  refine Go_st (σ' := (23, [(0, .long a), (2, .long b)], [.long a, .long b], h, 0, 0)) rfl rfl ?_
  refine Go_st (σ' := (24, [(0, .long a), (2, .long b)], [.long b, .long a, .long b], h, 0, 0)) rfl rfl ?_
  refine Go_st (σ' := (25, [(0, .long a), (2, .long b)], [.long (a - a / b * b), .long b], h, 0, 0)) rfl (by simp only [s_ldiv, if_neg hb]) ?_
  refine Go_call (h' := h) (r := some (.long g)) rfl hc ⟨Nat.le_refl 2, (fun _ hq => nomatch hq), Nat.zero_le 8, Nat.zero_le _, Nat.zero_le _⟩ ?_
  exact Go_ret rfl ⟨g, rfl, rfl⟩
theorem cm_end {a : Int64} {d : Nat} {h : pm_H} (ha : ¬ a.toInt = 0) (hm : -9223372036854775808 < a.toInt) : ∃ g : Int64, 1 ≤ g.toInt ∧ pm_Rt pm_P (d + 1) 230 h [.long a, .long 0] h (some (.long g)) := by
  have h0 : (0 : Int64).toInt = 0 := rfl
  have hcmp : lg_cmp 0 0 = 0 := (lg_cmp_eq 0 0).mpr rfl
  by_cases hs : a.toInt < 0
  · refine ⟨-a, ?_, iX9_common, aiX9_common, by show 4 ≤ 4; exact Nat.le_refl 4, ?_⟩
    · rw [Int64.toInt_neg, al_bmod (by omega) (by have := al_hi a; omega)]
      omega
    · have hc2 : ¬ 0 ≤ lg_cmp a 0 := fun e => by
        have := (lg_cmp_ge a 0).mp e
        rw [Int64.le_iff_toInt_le] at this
        omega
      show pm_Go (pm_at tX9_common) (pm_Rt pm_P d) (0, [(0, .long a), (2, .long 0)], [], h, 0, 0) (h, some (.long (-a)))
      refine Go_st (σ' := (1, [(0, .long a), (2, .long 0)], [.long 0], h, 0, 0)) rfl rfl ?_
      refine Go_st (σ' := (2, [(0, .long a), (2, .long 0)], [.long 0, .long 0], h, 0, 0)) rfl rfl ?_
      refine Go_st (σ' := (3, [(0, .long a), (2, .long 0)], [.int (lg_cmp 0 0)], h, 0, 0)) rfl rfl ?_
      refine Go_st (σ' := (bif decide (¬ lg_cmp 0 0 = 0) then 21 else 6, [(0, .long a), (2, .long 0)], [], h, 0, 0)) rfl rfl ?_
      refine cm_ifF (decide_eq_false (fun e => e hcmp)) ?_
      refine Go_st (σ' := (7, [(0, .long a), (2, .long 0)], [.long a], h, 0, 0)) rfl rfl ?_
      refine Go_st (σ' := (8, [(0, .long a), (2, .long 0)], [.long 0, .long a], h, 0, 0)) rfl rfl ?_
      refine Go_st (σ' := (9, [(0, .long a), (2, .long 0)], [.int (lg_cmp a 0)], h, 0, 0)) rfl rfl ?_
      refine Go_st (σ' := (bif decide (0 ≤ lg_cmp a 0) then 17 else 12, [(0, .long a), (2, .long 0)], [], h, 0, 0)) rfl rfl ?_
      refine cm_ifF (decide_eq_false hc2) ?_
      refine Go_st (σ' := (13, [(0, .long a), (2, .long 0)], [.long a], h, 0, 0)) rfl rfl ?_
      refine Go_st (σ' := (14, [(0, .long a), (2, .long 0)], [.long (-a)], h, 0, 0)) rfl rfl ?_
      refine Go_st (σ' := (28, [(0, .long a), (2, .long 0)], [.long (-a)], h, 0, 0)) rfl rfl ?_
      exact Go_ret rfl ⟨-a, rfl, rfl⟩
  · refine ⟨a, by omega, iX9_common, aiX9_common, by show 4 ≤ 4; exact Nat.le_refl 4, ?_⟩
    have hc2 : 0 ≤ lg_cmp a 0 := (lg_cmp_ge a 0).mpr (by rw [Int64.le_iff_toInt_le]; omega)
    show pm_Go (pm_at tX9_common) (pm_Rt pm_P d) (0, [(0, .long a), (2, .long 0)], [], h, 0, 0) (h, some (.long a))
    refine Go_st (σ' := (1, [(0, .long a), (2, .long 0)], [.long 0], h, 0, 0)) rfl rfl ?_
    refine Go_st (σ' := (2, [(0, .long a), (2, .long 0)], [.long 0, .long 0], h, 0, 0)) rfl rfl ?_
    refine Go_st (σ' := (3, [(0, .long a), (2, .long 0)], [.int (lg_cmp 0 0)], h, 0, 0)) rfl rfl ?_
    refine Go_st (σ' := (bif decide (¬ lg_cmp 0 0 = 0) then 21 else 6, [(0, .long a), (2, .long 0)], [], h, 0, 0)) rfl rfl ?_
    refine cm_ifF (decide_eq_false (fun e => e hcmp)) ?_
    refine Go_st (σ' := (7, [(0, .long a), (2, .long 0)], [.long a], h, 0, 0)) rfl rfl ?_
    refine Go_st (σ' := (8, [(0, .long a), (2, .long 0)], [.long 0, .long a], h, 0, 0)) rfl rfl ?_
    refine Go_st (σ' := (9, [(0, .long a), (2, .long 0)], [.int (lg_cmp a 0)], h, 0, 0)) rfl rfl ?_
    refine Go_st (σ' := (bif decide (0 ≤ lg_cmp a 0) then 17 else 12, [(0, .long a), (2, .long 0)], [], h, 0, 0)) rfl rfl ?_
    refine cm_ifT (decide_eq_true hc2) ?_
    refine Go_st (σ' := (18, [(0, .long a), (2, .long 0)], [.long a], h, 0, 0)) rfl rfl ?_
    refine Go_st (σ' := (28, [(0, .long a), (2, .long 0)], [.long a], h, 0, 0)) rfl rfl ?_
    exact Go_ret rfl ⟨a, rfl, rfl⟩
/-- the rest of longs -/
theorem cm_tmod {a b : Int64} (hb : ¬ b.toInt = 0) : (a - a / b * b).toInt = a.toInt.tmod b.toInt := by
  have l := al_lo a
  have u := al_hi a
  have d := Int.tmod_def a.toInt b.toInt
  have hq : (a / b * b).toInt = (a.toInt.tdiv b.toInt * b.toInt).bmod (2 ^ 64) := by
    rw [Int64.toInt_mul, Int64.toInt_div, Int.bmod_mul_bmod]
  have hm : a.toInt.tdiv b.toInt * b.toInt = a.toInt - a.toInt.tmod b.toInt := by rw [Int.mul_comm]; omega
  rw [Int64.toInt_sub, hq, hm, Int.sub_bmod_bmod, show a.toInt - (a.toInt - a.toInt.tmod b.toInt) = a.toInt.tmod b.toInt by omega]
  have hb1 := al_lo b
  have hb2 := al_hi b
  have hlt : a.toInt.tmod b.toInt < 9223372036854775808 ∧ -9223372036854775808 < a.toInt.tmod b.toInt := by
    by_cases hp : 0 < b.toInt
    · have t1 := Int.tmod_lt_of_pos a.toInt hp
      have t2 := Int.lt_tmod_of_pos a.toInt hp
      omega
    · have hp : 0 < -b.toInt := by omega
      have t1 := Int.tmod_lt_of_pos a.toInt hp
      have t2 := Int.lt_tmod_of_pos a.toInt hp
      rw [Int.tmod_neg] at t1 t2
      omega
  exact al_bmod (by omega) (by omega)
theorem cm_abs {x y : Int} (hy : y ≠ 0) : (x.tmod y).natAbs < y.natAbs ∧ (y.natAbs ≤ x.natAbs → 2 * (x.tmod y).natAbs < x.natAbs) := by
  have e : (x.tmod y).natAbs = x.natAbs % y.natAbs := Int.natAbs_tmod x y
  rw [e]
  have hp : 0 < y.natAbs := Int.natAbs_pos.mpr hy
  have h1 := Nat.mod_lt x.natAbs hp
  refine ⟨h1, fun hle => ?_⟩
  have h2 := Nat.div_add_mod x.natAbs y.natAbs
  have h3 : 1 ≤ x.natAbs / y.natAbs := (Nat.le_div_iff_mul_le hp).mpr (by omega)
  have h4 : y.natAbs * 1 ≤ y.natAbs * (x.natAbs / y.natAbs) := Nat.mul_le_mul_left _ h3
  omega
theorem cm_all : ∀ (k : Nat) (a b : Int64) (h : pm_H), ¬ b.toInt = 0 → -9223372036854775808 < b.toInt → b.toInt.natAbs < 2 ^ k → ∃ g : Int64, 1 ≤ g.toInt ∧ pm_Rt pm_P (2 * k + 2) 230 h [.long a, .long b] h (some (.long g))
  | 0, a, b, h, hb, _, hk => by
    exfalso
    have : 0 < b.toInt.natAbs := Int.natAbs_pos.mpr hb
    omega
  | k + 1, a, b, h, hb, hm, hk => by
    have hb0 : ¬ b = 0 := fun e => hb (by rw [e]; rfl)
    have r1 := cm_tmod (a := a) hb
    have s1 := cm_abs (x := a.toInt) (y := b.toInt) hb
    have bl := al_lo b
    have bh := al_hi b
    show ∃ g : Int64, 1 ≤ g.toInt ∧ pm_Rt pm_P (2 * k + 2 + 1 + 1) 230 h [.long a, .long b] h (some (.long g))
    by_cases hr : (a - a / b * b).toInt = 0
    · have hr0 : a - a / b * b = 0 := Int64.toInt_inj.mp hr
      obtain ⟨g, g1, g2⟩ := cm_end (a := b) (d := 2 * k + 2) (h := h) hb hm
      exact ⟨g, g1, cm_rem hb0 (by rw [hr0]; exact g2)⟩
    · have hr0 : ¬ a - a / b * b = 0 := fun e => hr (by rw [e]; rfl)
      have rl := al_lo (a - a / b * b)
      have rm : -9223372036854775808 < (a - a / b * b).toInt := by
        rw [r1]
        have := s1.1
        omega
      have r2 := cm_tmod (a := b) hr
      have s2 := cm_abs (x := b.toInt) (y := (a - a / b * b).toInt) hr
      have hle : (a - a / b * b).toInt.natAbs ≤ b.toInt.natAbs := by rw [r1]; omega
      have s3 := s2.2 hle
      by_cases hq : (b - b / (a - a / b * b) * (a - a / b * b)).toInt = 0
      · have hq0 : b - b / (a - a / b * b) * (a - a / b * b) = 0 := Int64.toInt_inj.mp hq
        obtain ⟨g, g1, g2⟩ := cm_end (a := a - a / b * b) (d := 2 * k + 1) (h := h) hr rm
        exact ⟨g, g1, cm_rem hb0 (cm_rem hr0 (by rw [hq0]; exact g2))⟩
      · have q1 : (b - b / (a - a / b * b) * (a - a / b * b)).toInt.natAbs < 2 ^ k := by
          rw [r2]
          have : 2 ^ (k + 1) = 2 * 2 ^ k := by rw [Nat.pow_succ, Nat.mul_comm]
          omega
        have q2 : -9223372036854775808 < (b - b / (a - a / b * b) * (a - a / b * b)).toInt := by
          rw [r2]
          have := s2.1
          omega
        obtain ⟨g, g1, g2⟩ := cm_all k (a - a / b * b) (b - b / (a - a / b * b) * (a - a / b * b)) h hq q2 q1
        exact ⟨g, g1, cm_rem hb0 (cm_rem hr0 g2)⟩
theorem common_sum (a1 a2 b1 b2 : Int) (h1 : decide (1 ≤ b1) = true) (h2 : decide (b2 < 134217728) = true) : sum_g w0 (pm_Rt pm_P 56) (230, [cL a1 a2, cL b1 b2], [], [], [], [([cL a1 a2, cL b1 b2], [], [], some (.inl (cL 1 9223372036854775807)))]) := by
  have h1 := of_decide_eq_true h1
  have h2 := of_decide_eq_true h2
  intro h as hh ha _ _
  match as, ha with
  | [.long a, .long b], ha =>
    have hb : b1 ≤ b.toInt ∧ b.toInt ≤ b2 := ha.2.1
    obtain ⟨g, g1, g2⟩ := cm_all 27 a b h (by omega) (by omega) (by have : (2 : Nat) ^ 27 = 134217728 := rfl; omega)
    exact ⟨h, some (.long g), g2, hh, fun _ _ _ => rfl, _, List.mem_singleton_self _, ha, fun q hq => absurd hq List.not_mem_nil, fun i hi => absurd hi List.not_mem_nil, g1, al_hi g⟩
end
section
/-! facts of the ring: how many places are held, how far the next free one is; cars and places of a row -/
end
