section
/-! by hand: the common divisor (a recursion that halves) -/
theorem cm_ifT {look : Nat → Option pm_I} {call : pm_Call} {z : Bool} {t n : Nat} {ρ : List (Nat × Value) × List Value × pm_H × Nat × Nat} {o : pm_H × Option Value} (hz : z = true) (k : pm_Go look call (t, ρ) o) : pm_Go look call (bif z then t else n, ρ) o := by subst hz; exact k
theorem cm_ifF {look : Nat → Option pm_I} {call : pm_Call} {z : Bool} {t n : Nat} {ρ : List (Nat × Value) × List Value × pm_H × Nat × Nat} {o : pm_H × Option Value} (hz : z = false) (k : pm_Go look call (n, ρ) o) : pm_Go look call (bif z then t else n, ρ) o := by subst hz; exact k
theorem cm_rem {a b : Int64} {d : Nat} {h : pm_H} {g : Int64} (hb : ¬ b = 0) (hc : pm_Rt pm_P d 230 h [.long b, .long (a - a / b * b)] h (some (.long g))) : pm_Rt pm_P (d + 1) 230 h [.long a, .long b] h (some (.long g)) := by
  refine ⟨iX9_common, aiX9_common, by show 4 ≤ 4; exact Nat.le_refl 4, ?_⟩
  have hcmp : ¬ lg_cmp b 0 = 0 := fun e => hb ((lg_cmp_eq b 0).mp e)
  show pm_Go (pm_at tX9_common) (pm_Rt pm_P d) (0, [(0, .long a), (2, .long b)], [], h, 0, 0) (h, some (.long g))
  refine Go_st (σ' := (1, [(0, .long a), (2, .long b)], [.long b], h, 0, 0)) rfl rfl ?_
  refine Go_st (σ' := (2, [(0, .long a), (2, .long b)], [.long 0, .long b], h, 0, 0)) rfl rfl ?_
  refine Go_st (σ' := (3, [(0, .long a), (2, .long b)], [.int (lg_cmp b 0)], h, 0, 0)) rfl rfl ?_
  refine Go_st (σ' := (bif decide (¬ lg_cmp b 0 = 0) then 21 else 6, [(0, .long a), (2, .long b)], [], h, 0, 0)) rfl rfl ?_
  refine cm_ifT (decide_eq_true hcmp) ?_
  refine Go_st (σ' := (22, [(0, .long a), (2, .long b)], [.long b], h, 0, 0)) rfl rfl ?_
  refine Go_st (σ' := (23, [(0, .long a), (2, .long b)], [.long a, .long b], h, 0, 0)) rfl rfl ?_
  refine Go_st (σ' := (24, [(0, .long a), (2, .long b)], [.long b, .long a, .long b], h, 0, 0)) rfl rfl ?_
  refine Go_st (σ' := (25, [(0, .long a), (2, .long b)], [.long (a - a / b * b), .long b], h, 0, 0)) rfl (by simp only [s_ldiv, if_neg hb]) ?_
  refine Go_call (h' := h) (r := some (.long g)) rfl hc ⟨Nat.le_refl 2, (fun _ hq => nomatch hq), Nat.zero_le 8, Nat.zero_le _, Nat.zero_le _⟩ ?_
  exact Go_ret rfl ⟨g, rfl, rfl⟩
theorem cm_end {a : Int64} {d : Nat} {h : pm_H} (ha : ¬ a.toInt = 0) (hm : -9223372036854775808 < a.toInt) : ∃ g : Int64, 1 ≤ g.toInt ∧ pm_Rt pm_P (d + 1) 230 h [.long a, .long 0] h (some (.long g)) := by
  have h0 : (0 : Int64).toInt = 0 := rfl
  have hcmp : lg_cmp 0 0 = 0 := (lg_cmp_eq 0 0).mpr rfl
  by_cases hs : a.toInt < 0
  · refine ⟨-a, ?_, iX9_common, aiX9_common, by show 4 ≤ 4; exact Nat.le_refl 4, ?_⟩
    · rw [Int64.toInt_neg, al_bmod (by omega) (by have := al_hi a; omega)]
      omega
    · have hc2 : ¬ 0 ≤ lg_cmp a 0 := fun e => by
        have := (lg_cmp_ge a 0).mp e
        rw [Int64.le_iff_toInt_le] at this
        omega
      show pm_Go (pm_at tX9_common) (pm_Rt pm_P d) (0, [(0, .long a), (2, .long 0)], [], h, 0, 0) (h, some (.long (-a)))
      refine Go_st (σ' := (1, [(0, .long a), (2, .long 0)], [.long 0], h, 0, 0)) rfl rfl ?_
      refine Go_st (σ' := (2, [(0, .long a), (2, .long 0)], [.long 0, .long 0], h, 0, 0)) rfl rfl ?_
      refine Go_st (σ' := (3, [(0, .long a), (2, .long 0)], [.int (lg_cmp 0 0)], h, 0, 0)) rfl rfl ?_
      refine Go_st (σ' := (bif decide (¬ lg_cmp 0 0 = 0) then 21 else 6, [(0, .long a), (2, .long 0)], [], h, 0, 0)) rfl rfl ?_
      refine cm_ifF (decide_eq_false (fun e => e hcmp)) ?_
      refine Go_st (σ' := (7, [(0, .long a), (2, .long 0)], [.long a], h, 0, 0)) rfl rfl ?_
      refine Go_st (σ' := (8, [(0, .long a), (2, .long 0)], [.long 0, .long a], h, 0, 0)) rfl rfl ?_
      refine Go_st (σ' := (9, [(0, .long a), (2, .long 0)], [.int (lg_cmp a 0)], h, 0, 0)) rfl rfl ?_
      refine Go_st (σ' := (bif decide (0 ≤ lg_cmp a 0) then 17 else 12, [(0, .long a), (2, .long 0)], [], h, 0, 0)) rfl rfl ?_
      refine cm_ifF (decide_eq_false hc2) ?_
      refine Go_st (σ' := (13, [(0, .long a), (2, .long 0)], [.long a], h, 0, 0)) rfl rfl ?_
      refine Go_st (σ' := (14, [(0, .long a), (2, .long 0)], [.long (-a)], h, 0, 0)) rfl rfl ?_
      refine Go_st (σ' := (28, [(0, .long a), (2, .long 0)], [.long (-a)], h, 0, 0)) rfl rfl ?_
      exact Go_ret rfl ⟨-a, rfl, rfl⟩
  · refine ⟨a, by omega, iX9_common, aiX9_common, by show 4 ≤ 4; exact Nat.le_refl 4, ?_⟩
    have hc2 : 0 ≤ lg_cmp a 0 := (lg_cmp_ge a 0).mpr (by rw [Int64.le_iff_toInt_le]; omega)
    show pm_Go (pm_at tX9_common) (pm_Rt pm_P d) (0, [(0, .long a), (2, .long 0)], [], h, 0, 0) (h, some (.long a))
    refine Go_st (σ' := (1, [(0, .long a), (2, .long 0)], [.long 0], h, 0, 0)) rfl rfl ?_
    refine Go_st (σ' := (2, [(0, .long a), (2, .long 0)], [.long 0, .long 0], h, 0, 0)) rfl rfl ?_
    refine Go_st (σ' := (3, [(0, .long a), (2, .long 0)], [.int (lg_cmp 0 0)], h, 0, 0)) rfl rfl ?_
    refine Go_st (σ' := (bif decide (¬ lg_cmp 0 0 = 0) then 21 else 6, [(0, .long a), (2, .long 0)], [], h, 0, 0)) rfl rfl ?_
    refine cm_ifF (decide_eq_false (fun e => e hcmp)) ?_
    refine Go_st (σ' := (7, [(0, .long a), (2, .long 0)], [.long a], h, 0, 0)) rfl rfl ?_
    refine Go_st (σ' := (8, [(0, .long a), (2, .long 0)], [.long 0, .long a], h, 0, 0)) rfl rfl ?_
    refine Go_st (σ' := (9, [(0, .long a), (2, .long 0)], [.int (lg_cmp a 0)], h, 0, 0)) rfl rfl ?_
    refine Go_st (σ' := (bif decide (0 ≤ lg_cmp a 0) then 17 else 12, [(0, .long a), (2, .long 0)], [], h, 0, 0)) rfl rfl ?_
    refine cm_ifT (decide_eq_true hc2) ?_
    refine Go_st (σ' := (18, [(0, .long a), (2, .long 0)], [.long a], h, 0, 0)) rfl rfl ?_
    refine Go_st (σ' := (28, [(0, .long a), (2, .long 0)], [.long a], h, 0, 0)) rfl rfl ?_
    exact Go_ret rfl ⟨a, rfl, rfl⟩
/-- the rest of longs -/
theorem cm_tmod {a b : Int64} (hb : ¬ b.toInt = 0) : (a - a / b * b).toInt = a.toInt.tmod b.toInt := by
  have l := al_lo a
  have u := al_hi a
  have d := Int.tmod_def a.toInt b.toInt
  have hq : (a / b * b).toInt = (a.toInt.tdiv b.toInt * b.toInt).bmod (2 ^ 64) := by
    rw [Int64.toInt_mul, Int64.toInt_div, Int.bmod_mul_bmod]
  have hm : a.toInt.tdiv b.toInt * b.toInt = a.toInt - a.toInt.tmod b.toInt := by rw [Int.mul_comm]; omega
  rw [Int64.toInt_sub, hq, hm, Int.sub_bmod_bmod, show a.toInt - (a.toInt - a.toInt.tmod b.toInt) = a.toInt.tmod b.toInt by omega]
  have hb1 := al_lo b
  have hb2 := al_hi b
  have hlt : a.toInt.tmod b.toInt < 9223372036854775808 ∧ -9223372036854775808 < a.toInt.tmod b.toInt := by
    by_cases hp : 0 < b.toInt
    · have t1 := Int.tmod_lt_of_pos a.toInt hp
      have t2 := Int.lt_tmod_of_pos a.toInt hp
      omega
    · have hp : 0 < -b.toInt := by omega
      have t1 := Int.tmod_lt_of_pos a.toInt hp
      have t2 := Int.lt_tmod_of_pos a.toInt hp
      rw [Int.tmod_neg] at t1 t2
      omega
  exact al_bmod (by omega) (by omega)
theorem cm_abs {x y : Int} (hy : y ≠ 0) : (x.tmod y).natAbs < y.natAbs ∧ (y.natAbs ≤ x.natAbs → 2 * (x.tmod y).natAbs < x.natAbs) := by
  have e : (x.tmod y).natAbs = x.natAbs % y.natAbs := Int.natAbs_tmod x y
  rw [e]
  have hp : 0 < y.natAbs := Int.natAbs_pos.mpr hy
  have h1 := Nat.mod_lt x.natAbs hp
  refine ⟨h1, fun hle => ?_⟩
  have h2 := Nat.div_add_mod x.natAbs y.natAbs
  have h3 : 1 ≤ x.natAbs / y.natAbs := (Nat.le_div_iff_mul_le hp).mpr (by omega)
  have h4 : y.natAbs * 1 ≤ y.natAbs * (x.natAbs / y.natAbs) := Nat.mul_le_mul_left _ h3
  omega
theorem cm_all : ∀ (k : Nat) (a b : Int64) (h : pm_H), ¬ b.toInt = 0 → -9223372036854775808 < b.toInt → b.toInt.natAbs < 2 ^ k → ∃ g : Int64, 1 ≤ g.toInt ∧ pm_Rt pm_P (2 * k + 2) 230 h [.long a, .long b] h (some (.long g))
  | 0, a, b, h, hb, _, hk => by
    exfalso
    have : 0 < b.toInt.natAbs := Int.natAbs_pos.mpr hb
    omega
  | k + 1, a, b, h, hb, hm, hk => by
    have hb0 : ¬ b = 0 := fun e => hb (by rw [e]; rfl)
    have r1 := cm_tmod (a := a) hb
    have s1 := cm_abs (x := a.toInt) (y := b.toInt) hb
    have bl := al_lo b
    have bh := al_hi b
    show ∃ g : Int64, 1 ≤ g.toInt ∧ pm_Rt pm_P (2 * k + 2 + 1 + 1) 230 h [.long a, .long b] h (some (.long g))
    by_cases hr : (a - a / b * b).toInt = 0
    · have hr0 : a - a / b * b = 0 := Int64.toInt_inj.mp hr
      obtain ⟨g, g1, g2⟩ := cm_end (a := b) (d := 2 * k + 2) (h := h) hb hm
      exact ⟨g, g1, cm_rem hb0 (by rw [hr0]; exact g2)⟩
    · have hr0 : ¬ a - a / b * b = 0 := fun e => hr (by rw [e]; rfl)
      have rl := al_lo (a - a / b * b)
      have rm : -9223372036854775808 < (a - a / b * b).toInt := by
        rw [r1]
        have := s1.1
        omega
      have r2 := cm_tmod (a := b) hr
      have s2 := cm_abs (x := b.toInt) (y := (a - a / b * b).toInt) hr
      have hle : (a - a / b * b).toInt.natAbs ≤ b.toInt.natAbs := by rw [r1]; omega
      have s3 := s2.2 hle
      by_cases hq : (b - b / (a - a / b * b) * (a - a / b * b)).toInt = 0
      · have hq0 : b - b / (a - a / b * b) * (a - a / b * b) = 0 := Int64.toInt_inj.mp hq
        obtain ⟨g, g1, g2⟩ := cm_end (a := a - a / b * b) (d := 2 * k + 1) (h := h) hr rm
        exact ⟨g, g1, cm_rem hb0 (cm_rem hr0 (by rw [hq0]; exact g2))⟩
      · have q1 : (b - b / (a - a / b * b) * (a - a / b * b)).toInt.natAbs < 2 ^ k := by
          rw [r2]
          have : 2 ^ (k + 1) = 2 * 2 ^ k := by rw [Nat.pow_succ, Nat.mul_comm]
          omega
        have q2 : -9223372036854775808 < (b - b / (a - a / b * b) * (a - a / b * b)).toInt := by
          rw [r2]
          have := s2.1
          omega
        obtain ⟨g, g1, g2⟩ := cm_all k (a - a / b * b) (b - b / (a - a / b * b) * (a - a / b * b)) h hq q2 q1
        exact ⟨g, g1, cm_rem hb0 (cm_rem hr0 g2)⟩
theorem common_sum (a1 a2 b1 b2 : Int) (h1 : decide (1 ≤ b1) = true) (h2 : decide (b2 < 134217728) = true) : sum_g w0 (pm_Rt pm_P 56) (230, [cL a1 a2, cL b1 b2], [], [], [], [([cL a1 a2, cL b1 b2], [], [], some (.inl (cL 1 9223372036854775807)))]) := by
  have h1 := of_decide_eq_true h1
  have h2 := of_decide_eq_true h2
  intro h as hh ha _ _
  match as, ha with
  | [.long a, .long b], ha =>
    have hb : b1 ≤ b.toInt ∧ b.toInt ≤ b2 := ha.2.1
    obtain ⟨g, g1, g2⟩ := cm_all 27 a b h (by omega) (by omega) (by have : (2 : Nat) ^ 27 = 134217728 := rfl; omega)
    exact ⟨h, some (.long g), g2, hh, fun _ _ _ => rfl, _, List.mem_singleton_self _, ha, fun q hq => absurd hq List.not_mem_nil, fun i hi => absurd hi List.not_mem_nil, g1, al_hi g⟩
end
section
/-! facts of the ring: how many places are held, how far the next free one is; cars and places of a row -/
/-- a world that says more, of the same heap -/
noncomputable def ext_w (w w' : AW) (n : Nat) : Prop := w'.1.1 = w.1.1 ∧ ∀ i, i < n → w'.1.2.1 i = w.1.2.1 i
noncomputable def sum_lt (n : Nat) (S : Sum1) : Bool := S.2.2.2.1.all (fun i => Nat.blt i n) && S.2.2.2.2.2.all (fun C => C.2.2.1.all (fun i => Nat.blt i n))
theorem sum_tr {w w' : AW} {n : Nat} {call : pm_Call} {S : Sum1} (he : ext_w w w' n) (hS : sum_lt n S = true) (h : sum_g w call S) : sum_g w' call S := by
  obtain ⟨e1, e2⟩ := he
  unfold sum_lt at hS
  rw [Bool.and_eq_true] at hS
  intro h0 as a1 a2 a3 a4
  rw [e1] at a1
  obtain ⟨h', r, b1, b2, b3, C, hC, b4, b5, b6, b7⟩ := h h0 as a1 a2 a3 (fun i hi => by
    have := Nat.le_of_ble_eq_true (List.all_eq_true.mp hS.1 i hi)
    rw [← e2 i this]
    exact a4 i hi)
  refine ⟨h', r, b1, by rw [e1]; exact b2, b3, C, hC, b4, b5, fun i hi => ?_, b7⟩
  have := Nat.le_of_ble_eq_true (List.all_eq_true.mp (List.all_eq_true.mp hS.2 C hC) i hi)
  rw [e2 i this]
  exact b6 i hi
/-- what holds a place -/
noncomputable def hv (h : pm_H) (q : Nat) : Int := match ld h 90 q with
  | some (.int x) => x.toInt
  | _ => 0
noncomputable def cntf (f : Nat → Int) (v : Nat) : Nat → Nat
  | 0 => 0
  | R + 1 => cntf f v R + (if R + 1 = v ∨ f (R + 1) = -1 then 0 else 1)
noncomputable def hfd (f : Nat → Int) (R : Nat) : Nat → Nat → Prop
  | 0, v => f v = -1
  | d + 1, v => f v = -1 ∨ hfd f R d (v % R + 1)
theorem cntf_eq {f g : Nat → Int} {v : Nat} : ∀ {R : Nat}, (∀ q, q ≤ R → q ≠ v → f q = g q) → cntf f v R = cntf g v R
  | 0, _ => rfl
  | R + 1, h => by
    unfold cntf
    rw [cntf_eq (R := R) (fun q hq hv => h q (by omega) hv)]
    by_cases hR : R + 1 = v
    · simp only [hR, true_or]
    · rw [h (R + 1) (Nat.le_refl _) hR]
theorem cntf_weak {f : Nat → Int} {v : Nat} : ∀ (R : Nat), cntf f v R ≤ cntf f 10 R ∨ 9 < R
  | 0 => .inl (Nat.le_refl _)
  | R + 1 => by
    by_cases h9 : 9 < R + 1
    · exact .inr h9
    · cases cntf_weak (f := f) (v := v) R with
      | inr h => omega
      | inl h =>
        left
        unfold cntf
        by_cases h1 : f (R + 1) = -1
        · simp only [h1, or_true, if_true]; exact h
        · have h10 : ¬ R + 1 = 10 := by omega
          simp only [h1, or_false, h10, if_false]
          split <;> omega
/-- one place more may be held -/
theorem cntf_inc {f g : Nat → Int} {v : Nat} : ∀ {R : Nat}, (∀ q, q ≤ R → q ≠ v → g q = f q) → R ≤ 9 → cntf g 10 R ≤ cntf f v R + (if v ≤ R then 1 else 0)
  | 0, _, _ => by unfold cntf; omega
  | R + 1, h, h9 => by
    have ih := cntf_inc (R := R) (fun q hq hv => h q (by omega) hv) (by omega)
    unfold cntf
    have h10 : ¬ R + 1 = 10 := by omega
    by_cases hR : R + 1 = v
    · rw [if_neg (show ¬ v ≤ R by omega)] at ih
      rw [if_pos (show R + 1 = v ∨ f (R + 1) = -1 from .inl hR), if_pos (show v ≤ R + 1 by omega)]
      split <;> omega
    · rw [h (R + 1) (Nat.le_refl _) hR]
      simp only [h10, false_or, hR]
      by_cases hv : v ≤ R
      · simp only [hv, if_true] at ih
        have : v ≤ R + 1 := by omega
        simp only [this, if_true]
        split <;> omega
      · simp only [hv, if_false] at ih
        have : ¬ v ≤ R + 1 := by omega
        simp only [this, if_false]
        split <;> omega
theorem cntf_zero {f : Nat → Int} {v : Nat} : ∀ {R : Nat}, (∀ q, 1 ≤ q → q ≤ R → f q = -1) → cntf f v R = 0
  | 0, _ => rfl
  | R + 1, h => by
    unfold cntf
    rw [cntf_zero (R := R) (fun q h1 h2 => h q h1 (by omega)), h (R + 1) (by omega) (Nat.le_refl _)]
    simp only [or_true, if_true]
theorem cntf_free {f : Nat → Int} : ∀ {R : Nat}, R ≤ 9 → cntf f 10 R < R → ∃ q, 1 ≤ q ∧ q ≤ R ∧ f q = -1
  | 0, _, h => absurd h (Nat.not_lt_zero _)
  | R + 1, h9, h => by
    by_cases h1 : f (R + 1) = -1
    · exact ⟨R + 1, by omega, Nat.le_refl _, h1⟩
    · have h10 : ¬ R + 1 = 10 := by omega
      unfold cntf at h
      simp only [h1, or_false, h10, if_false] at h
      obtain ⟨q, a, b, c⟩ := cntf_free (f := f) (R := R) (by omega) (by omega)
      exact ⟨q, a, by omega, c⟩
theorem hfd_up {f : Nat → Int} {R : Nat} : ∀ {d v : Nat}, hfd f R d v → hfd f R (d + 1) v
  | 0, _, h => .inl h
  | _ + 1, _, .inl h => .inl h
  | _ + 1, _, .inr h => .inr (hfd_up h)
theorem hfd_ups {f : Nat → Int} {R d v : Nat} (h : hfd f R d v) : ∀ {e : Nat}, d ≤ e → hfd f R e v
  | 0, he => by
    have : d = 0 := by omega
    subst this
    exact h
  | e + 1, he => by
    by_cases hd : d = e + 1
    · subst hd; exact h
    · exact hfd_up (hfd_ups h (e := e) (by omega))
theorem hfd_walk {f : Nat → Int} {R q : Nat} (hR : 0 < R) (hq : f q = -1) : ∀ (i v : Nat), 1 ≤ v → v ≤ R → (v - 1 + i) % R + 1 = q → hfd f R i v
  | 0, v, h1, h2, h3 => by
    have : v = q := by rw [← h3, Nat.add_zero, Nat.mod_eq_of_lt (by omega)]; omega
    subst this
    exact hq
  | i + 1, v, h1, h2, h3 => by
    right
    refine hfd_walk hR hq i (v % R + 1) (by omega) (by have := Nat.mod_lt v hR; omega) ?_
    rw [← h3, show v % R + 1 - 1 + i = v % R + i by omega, Nat.mod_add_mod, show v - 1 + (i + 1) = v + i by omega]
theorem hfd_free {f : Nat → Int} {R v : Nat} (h9 : R ≤ 9) (h : cntf f 10 R < R) (h1 : 1 ≤ v) (h2 : v ≤ R) : hfd f R (R - 1) v := by
  obtain ⟨q, a, b, c⟩ := cntf_free h9 h
  have hR : 0 < R := by omega
  refine hfd_ups (hfd_walk hR c ((q + R - v) % R) v h1 h2 ?_) (by have := Nat.mod_lt (q + R - v) hR; omega)
  rw [Nat.add_mod_mod, show v - 1 + (q + R - v) = (q - 1) + R by omega, Nat.add_mod_right, Nat.mod_eq_of_lt (by omega)]
  omega
theorem hfd_eq {f g : Nat → Int} {R : Nat} (hR : R ≤ 9) (hfg : ∀ q, q ≤ 100 → f q = g q) : ∀ (d v : Nat), v + d ≤ 50 → d ≤ 20 → hfd f R d v → hfd g R d v
  | 0, v, hv, _, h => by
    have h : f v = -1 := h
    show g v = -1
    rw [← hfg v (by omega)]; exact h
  | d + 1, v, hv, hd, h => by
    cases h with
    | inl h => left; rw [← hfg v (by omega)]; exact h
    | inr h =>
      right
      refine hfd_eq hR hfg d (v % R + 1) ?_ (by omega) h
      by_cases h0 : R = 0
      · subst h0; rw [Nat.mod_zero]; omega
      · have := Nat.mod_lt v (Nat.pos_of_ne_zero h0); omega
/-- what a node hangs from; how far it is to node 0 -/
noncomputable def hg (h : pm_H) (q : Nat) : Nat := match ld h 92 q with
  | some (.int x) => x.toInt.toNat
  | _ => 0
noncomputable def dep (f : Nat → Nat) : Nat → Nat → Prop
  | 0, v => v = 0
  | d + 1, v => v = 0 ∨ dep f d (f v)
theorem hg_le (h : pm_H) (q : Nat) : hg h q ≤ 2147483647 := by
  unfold hg
  split
  · rename_i x _
    have := ai_hi x
    omega
  · omega
theorem dep_eq {f g : Nat → Nat} (hf : ∀ q, f q ≤ 2147483647) (hfg : ∀ q, q ≤ 4294967295 → f q = g q) : ∀ (d v : Nat), v ≤ 2147483647 → dep f d v → dep g d v
  | 0, _, _, h => h
  | _ + 1, _, _, .inl h => .inl h
  | d + 1, v, hv', .inr h => by
    right
    rw [← hfg v (by omega)]
    exact dep_eq hf hfg d (f v) (hf v) h
/-- cars are at most places -/
noncomputable def CPf (r : Nat) (h : pm_H) : Prop := ∀ c p : Int32, ld h 84 (6 * r + 3) = some (.int c) → ld h 84 (6 * r) = some (.int p) → c.toInt ≤ p.toInt
/-- 0 .. 4: cars and places; from 8: held places; from 1200: the next free one; from 2200: what hangs from what -/
noncomputable def fl3 (i : Nat) (h : pm_H) : Prop := bif Nat.blt i 8 then CPf i h else (bif Nat.blt i 1200 then cntf (hv h) ((i - 8) % 11) ((i - 8) / 110) ≤ (i - 8) / 11 % 10 ∨ 9 < (i - 8) / 110 else (bif Nat.blt i 2200 then hfd (hv h) ((i - 1200) / 100 % 10) ((i - 1200) % 10) ((i - 1200) / 10 % 10) else dep (hg h) ((i - 2200) % 10) ((i - 2200) / 10 % 10)))
noncomputable def sp3 (i : Nat) : List Rng := bif Nat.blt i 8 then [(84, 6 * i + 3, 6 * i + 3), (84, 6 * i, 6 * i)] else (bif Nat.blt i 1200 then (bif Nat.beq ((i - 8) % 11) 0 then [(90, 1, 20)] else [(90, 0, (i - 8) % 11 - 1), (90, (i - 8) % 11 + 1, 20)]) else (bif Nat.blt i 2200 then [(90, 0, 100)] else [(92, 0, 4294967295)]))
theorem hv_eq {h h' : pm_H} {q : Nat} (e : ld h' 90 q = ld h 90 q) : hv h' q = hv h q := by unfold hv; rw [e]
set_option maxRecDepth 20000 in
theorem fl3_fr (i : Nat) (h h' : pm_H) (hf : ∀ a k, rg_in (sp3 i) a k = true → ld h' a k = ld h a k) (hi : fl3 i h) : fl3 i h' := by
  unfold fl3 sp3 at *
  cases h8 : Nat.blt i 8 with
  | true =>
    rw [h8] at hf hi
    dsimp only [cond_true] at hf hi ⊢
    intro c p h1 h2
    rw [hf 84 _ (rg_in_one (Nat.le_refl _) (Nat.le_refl _) List.mem_cons_self)] at h1
    rw [hf 84 _ (rg_in_one (Nat.le_refl _) (Nat.le_refl _) (List.mem_cons_of_mem _ (List.mem_singleton_self _)))] at h2
    exact hi c p h1 h2
  | false =>
    rw [h8] at hf hi
    dsimp only [cond_false] at hf hi ⊢
    cases h12 : Nat.blt i 1200 with
    | true =>
      rw [h12] at hf hi
      dsimp only [cond_true] at hf hi ⊢
      cases hi with
      | inr h9 => exact .inr h9
      | inl hi =>
        by_cases h9 : 9 < (i - 8) / 110
        · exact .inr h9
        · left
          rw [cntf_eq (g := hv h)]
          · exact hi
          · intro q hq hv'
            refine hv_eq (hf 90 q ?_)
            cases hb : Nat.beq ((i - 8) % 11) 0 with
            | true =>
              have h0 := Nat.eq_of_beq_eq_true hb
              exact rg_in_one (by omega) (by omega) (List.mem_singleton_self _)
            | false =>
              by_cases hlt : q < (i - 8) % 11
              · exact rg_in_one (Nat.zero_le _) (by omega) List.mem_cons_self
              · exact rg_in_one (by omega) (by omega) (List.mem_cons_of_mem _ (List.mem_singleton_self _))
    | false =>
      rw [h12] at hf hi
      dsimp only [cond_false] at hf hi ⊢
      cases h22 : Nat.blt i 2200 with
      | false =>
        rw [h22] at hf hi
        dsimp only [cond_false] at hf hi ⊢
        refine dep_eq (hg_le h) (fun q hq => ?_) _ _ (by omega) hi
        unfold hg
        rw [hf 92 q (rg_in_one (Nat.zero_le _) hq (List.mem_singleton_self _))]
      | true =>
      rw [h22] at hf hi
      dsimp only [cond_true] at hf hi ⊢
      exact hfd_eq (by omega) (fun q hq => (hv_eq (hf 90 q (rg_in_one (Nat.zero_le _) hq (List.mem_singleton_self _)))).symm) _ _ (by omega) (by omega) hi
noncomputable def fl0' (i : Nat) (h : pm_H) : Prop := bif Nat.blt i 1202 then fl0 i h else fl3 (i - 1202) h
noncomputable def sp0' (i : Nat) : List Rng := bif Nat.blt i 1202 then sp0 i else sp3 (i - 1202)
set_option maxRecDepth 20000 in
theorem fl0'_fr (i : Nat) (h h' : pm_H) (a1 : hs_g hs0 h) (a2 : hs_g hs0 h') (hf : ∀ a k, rg_in (sp0' i) a k = true → ld h' a k = ld h a k) (hi : fl0' i h) : fl0' i h' := by
  unfold fl0' sp0' at *
  cases hb : Nat.blt i 1202 with
  | true => rw [hb] at hf hi; exact fl0_fr i h h' a1 a2 hf hi
  | false => rw [hb] at hf hi; exact fl3_fr (i - 1202) h h' hf hi
noncomputable def w1 : AW := ⟨(hs0, fl0', sp0'), fl0'_fr⟩
theorem w1_ext : ext_w w0 w1 1202 := by
  refine ⟨rfl, fun i hi => ?_⟩
  funext h
  show (bif Nat.blt i 1202 then fl0 i h else fl3 (i - 1202) h) = fl0 i h
  rw [show Nat.blt i 1202 = true from Nat.ble_eq_true_of_le hi]; rfl
theorem w1_new (i : Nat) (h : pm_H) : w1.1.2.1 (1202 + i) h = fl3 i h := by
  show (bif Nat.blt (1202 + i) 1202 then fl0 (1202 + i) h else fl3 (1202 + i - 1202) h) = fl3 i h
  have hb : Nat.blt (1202 + i) 1202 = false := by
    cases hb : Nat.blt (1202 + i) 1202 with
    | false => rfl
    | true => have := Nat.le_of_ble_eq_true hb; omega
  rw [hb, cond_false, show 1202 + i - 1202 = i by omega]
theorem w1_cnt {R k v : Nat} {h : pm_H} (hR : R ≤ 9) (hk : k < 10) (hv' : v < 11) : w1.1.2.1 (1202 + (8 + ((R * 10 + k) * 11 + v))) h = (cntf (hv h) v R ≤ k ∨ 9 < R) := by
  rw [w1_new]
  unfold fl3
  have h1 : Nat.blt (8 + ((R * 10 + k) * 11 + v)) 8 = false := by
    cases hb : Nat.blt (8 + ((R * 10 + k) * 11 + v)) 8 with
    | false => rfl
    | true => have := Nat.le_of_ble_eq_true hb; omega
  have h2 : Nat.blt (8 + ((R * 10 + k) * 11 + v)) 1200 = true := Nat.ble_eq_true_of_le (by omega)
  rw [h1, h2, cond_false, cond_true, show 8 + ((R * 10 + k) * 11 + v) - 8 = (R * 10 + k) * 11 + v by omega, show ((R * 10 + k) * 11 + v) % 11 = v by omega, show ((R * 10 + k) * 11 + v) / 110 = R by omega, show ((R * 10 + k) * 11 + v) / 11 % 10 = k by omega]
theorem w1_hfd {R v d : Nat} {h : pm_H} (hR : R ≤ 9) (hv' : v < 10) (hd : d < 10) : w1.1.2.1 (1202 + (1200 + ((R * 10 + v) * 10 + d))) h = hfd (hv h) R d v := by
  rw [w1_new]
  unfold fl3
  have h1 : Nat.blt (1200 + ((R * 10 + v) * 10 + d)) 8 = false := by
    cases hb : Nat.blt (1200 + ((R * 10 + v) * 10 + d)) 8 with
    | false => rfl
    | true => have := Nat.le_of_ble_eq_true hb; omega
  have h2 : Nat.blt (1200 + ((R * 10 + v) * 10 + d)) 1200 = false := by
    cases hb : Nat.blt (1200 + ((R * 10 + v) * 10 + d)) 1200 with
    | false => rfl
    | true => have := Nat.le_of_ble_eq_true hb; omega
  have h3 : Nat.blt (1200 + ((R * 10 + v) * 10 + d)) 2200 = true := Nat.ble_eq_true_of_le (by omega)
  rw [h1, h2, h3, cond_false, cond_false, cond_true, show 1200 + ((R * 10 + v) * 10 + d) - 1200 = (R * 10 + v) * 10 + d by omega, show ((R * 10 + v) * 10 + d) / 100 % 10 = R by omega, show ((R * 10 + v) * 10 + d) % 10 = d by omega, show ((R * 10 + v) * 10 + d) / 10 % 10 = v by omega]
theorem w1_dep {v d : Nat} {h : pm_H} (hv' : v < 10) (hd : d < 10) : w1.1.2.1 (1202 + (2200 + (v * 10 + d))) h = dep (hg h) d v := by
  rw [w1_new]
  unfold fl3
  have h1 : Nat.blt (2200 + (v * 10 + d)) 8 = false := by
    cases hb : Nat.blt (2200 + (v * 10 + d)) 8 with
    | false => rfl
    | true => have := Nat.le_of_ble_eq_true hb; omega
  have h2 : Nat.blt (2200 + (v * 10 + d)) 1200 = false := by
    cases hb : Nat.blt (2200 + (v * 10 + d)) 1200 with
    | false => rfl
    | true => have := Nat.le_of_ble_eq_true hb; omega
  have h3 : Nat.blt (2200 + (v * 10 + d)) 2200 = false := by
    cases hb : Nat.blt (2200 + (v * 10 + d)) 2200 with
    | false => rfl
    | true => have := Nat.le_of_ble_eq_true hb; omega
  rw [h1, h2, h3, cond_false, cond_false, cond_false, show 2200 + (v * 10 + d) - 2200 = v * 10 + d by omega, show (v * 10 + d) % 10 = d by omega, show (v * 10 + d) / 10 % 10 = v by omega]
/-- facts out of facts -/
noncomputable def der (g : AS → Nat → List Nat) (A : AS) : AS := set_fl A (A.2.2.2.2.2.2.1.flatMap (g A) ++ A.2.2.2.2.2.2.1)
theorem der_ok {w : AW} {E : AEnv} {ρ : Nat → Int} {A : AS} {σ : pm_S} {g : AS → Nat → List Nat} (gA : as_r w E ρ A σ) (hg : ∀ i j, w.1.2.1 i σ.2.2.2.1 → j ∈ g A i → w.1.2.1 j σ.2.2.2.1) : as_r w E ρ (der g A) σ := by
  refine set_fl_ok gA (fun j hj => ?_)
  cases List.mem_append.mp hj with
  | inr hj => exact gA.2.2.2.2.2.2.2.1 j hj
  | inl hj =>
    obtain ⟨i, hi, hij⟩ := List.mem_flatMap.mp hj
    exact hg i j (gA.2.2.2.2.2.2.2.1 i hi) hij
noncomputable def hint1 (g : AS → Nat → List Nat) (b : AS → Nat → Bool) (A : AS) : List AS := bif A.2.2.2.2.2.2.1.any (b A) then [] else [der g A]
theorem hint1_ok {w : AW} {g : AS → Nat → List Nat} {b : AS → Nat → Bool} (hg : ∀ (E : AEnv) (ρ : Nat → Int) (A : AS) (σ : pm_S) (i j : Nat), as_r w E ρ A σ → w.1.2.1 i σ.2.2.2.1 → j ∈ g A i → w.1.2.1 j σ.2.2.2.1) (hb : ∀ (E : AEnv) (ρ : Nat → Int) (A : AS) (σ : pm_S) (i : Nat), as_r w E ρ A σ → w.1.2.1 i σ.2.2.2.1 → b A i = true → False) (E : AEnv) (A : AS) (σ : pm_S) (gA : as_g w E A σ) : ∃ B ∈ hint1 g b A, as_g w E B σ := by
  obtain ⟨ρ, gA⟩ := gA
  unfold hint1
  cases hc : A.2.2.2.2.2.2.1.any (b A) with
  | true =>
    obtain ⟨i, hi, hbi⟩ := List.any_eq_true.mp hc
    exact (hb E ρ A σ i gA (gA.2.2.2.2.2.2.2.1 i hi) hbi).elim
  | false => exact ⟨der g A, List.mem_singleton_self _, ρ, der_ok gA (fun i j h1 h2 => hg E ρ A σ i j gA h1 h2)⟩
/-- is a place known to be held -/
noncomputable def hd_ne (A : AS) (v : Nat) : Bool := match mem_get A.2.2.2.2.1 90 v with
  | some (.inl (k, o)) => (match iv_rng A.2.2.2.1 k o with | some (l, u) => decide (-1 < l) || decide (u < -1) | none => false)
  | _ => false
theorem hd_ne_ok {w : AW} {E : AEnv} {ρ : Nat → Int} {A : AS} {σ : pm_S} {v : Nat} (g : as_r w E ρ A σ) (h : hd_ne A v = true) : ¬ hv σ.2.2.2.1 v = -1 := by
  unfold hd_ne at h
  split at h
  · rename_i k o e
    split at h
    · rename_i l u r
      simp only [Bool.or_eq_true, decide_eq_true_eq] at h
      obtain ⟨x, p, q⟩ := g.2.2.2.2.2.1 _ _ (mem_get_in e)
      obtain ⟨y, rfl, q⟩ := av_int q
      have := iv_rng_ok g.1 q r
      unfold hv
      dsimp only at p
      rw [p]
      dsimp only
      omega
    · cases h
  · cases h
theorem cnt_dec {i : Nat} (h1 : Nat.ble 1210 i = true) (h2 : Nat.blt i 2310 = true) : ∃ R k v, R ≤ 9 ∧ k < 10 ∧ v < 11 ∧ i = 1202 + (8 + ((R * 10 + k) * 11 + v)) ∧ v = (i - 1210) % 11 ∧ k = (i - 1210) / 11 % 10 ∧ R = (i - 1210) / 110 := by
  have a := Nat.le_of_ble_eq_true h1
  have b : i < 2310 := Nat.le_of_ble_eq_true h2
  exact ⟨(i - 1210) / 110, (i - 1210) / 11 % 10, (i - 1210) % 11, by omega, by omega, by omega, by omega, rfl, rfl, rfl⟩
theorem hfd_dec {i : Nat} (h1 : Nat.ble 2402 i = true) (h2 : Nat.blt i 3402 = true) : ∃ R v d, R ≤ 9 ∧ v < 10 ∧ d < 10 ∧ i = 1202 + (1200 + ((R * 10 + v) * 10 + d)) ∧ d = (i - 2402) % 10 ∧ v = (i - 2402) / 10 % 10 ∧ R = (i - 2402) / 100 := by
  have a := Nat.le_of_ble_eq_true h1
  have b : i < 3402 := Nat.le_of_ble_eq_true h2
  exact ⟨(i - 2402) / 100, (i - 2402) / 10 % 10, (i - 2402) % 10, by omega, by omega, by omega, by omega, rfl, rfl, rfl⟩
/-- but for one place -/
noncomputable def g_cw (_ : AS) (i : Nat) : List Nat := bif (Nat.ble 1210 i && Nat.blt i 2310) && Nat.beq ((i - 1210) % 11) 10 then (List.range 10).map (fun v => i - 10 + v) else []
set_option maxRecDepth 20000 in
theorem g_cw_ok (i j : Nat) (A : AS) (h : pm_H) (hi : w1.1.2.1 i h) (hj : j ∈ g_cw A i) : w1.1.2.1 j h := by
  unfold g_cw at hj
  cases hb : ((Nat.ble 1210 i && Nat.blt i 2310) && Nat.beq ((i - 1210) % 11) 10) with
  | false => rw [hb] at hj; exact absurd hj List.not_mem_nil
  | true =>
    rw [hb] at hj
    rw [Bool.and_eq_true, Bool.and_eq_true] at hb
    obtain ⟨R, k, v, hR, hk, hv', e, ev, ek, eR⟩ := cnt_dec hb.1.1 hb.1.2
    have hv10 : v = 10 := by rw [ev]; exact Nat.eq_of_beq_eq_true hb.2
    subst hv10
    obtain ⟨u, hu, rfl⟩ := List.mem_map.mp hj
    have hu : u < 10 := List.mem_range.mp hu
    rw [e] at hi ⊢
    rw [w1_cnt hR hk (by omega)] at hi
    rw [show 1202 + (8 + ((R * 10 + k) * 11 + 10)) - 10 + u = 1202 + (8 + ((R * 10 + k) * 11 + u)) by omega, w1_cnt hR hk (by omega)]
    cases hi with
    | inr h' => exact .inr h'
    | inl h' =>
      cases cntf_weak (f := hv h) (v := u) R with
      | inr h9 => exact .inr h9
      | inl hw => exact .inl (Nat.le_trans hw h')
/-- one more -/
noncomputable def g_ci (_ : AS) (i : Nat) : List Nat := bif (Nat.ble 1210 i && Nat.blt i 2310) && (Nat.blt ((i - 1210) % 11) 10 && Nat.blt ((i - 1210) / 11 % 10) 9) then [i - (i - 1210) % 11 + 21] else []
set_option maxRecDepth 20000 in
theorem g_ci_ok (i j : Nat) (A : AS) (h : pm_H) (hi : w1.1.2.1 i h) (hj : j ∈ g_ci A i) : w1.1.2.1 j h := by
  unfold g_ci at hj
  cases hb : ((Nat.ble 1210 i && Nat.blt i 2310) && (Nat.blt ((i - 1210) % 11) 10 && Nat.blt ((i - 1210) / 11 % 10) 9)) with
  | false => rw [hb] at hj; exact absurd hj List.not_mem_nil
  | true =>
    rw [hb] at hj
    rw [Bool.and_eq_true, Bool.and_eq_true, Bool.and_eq_true] at hb
    obtain ⟨R, k, v, hR, hk, hv', e, ev, ek, eR⟩ := cnt_dec hb.1.1 hb.1.2
    have hk9 : k < 9 := by rw [ek]; exact Nat.le_of_ble_eq_true hb.2.2
    have hj := List.mem_singleton.mp hj
    subst hj
    rw [← ev, e]
    rw [e, w1_cnt hR hk hv'] at hi
    rw [show 1202 + (8 + ((R * 10 + k) * 11 + v)) - v + 21 = 1202 + (8 + ((R * 10 + (k + 1)) * 11 + 10)) by omega, w1_cnt hR (by omega) (by omega)]
    cases hi with
    | inr h => exact .inr h
    | inl h' =>
      left
      have := cntf_inc (f := hv h) (g := hv h) (v := v) (R := R) (fun _ _ _ => rfl) hR
      split at this <;> omega
/-- a step on -/
noncomputable def g_wk (A : AS) (i : Nat) : List Nat := bif (Nat.ble 2402 i && Nat.blt i 3402) && ((Nat.blt 0 ((i - 2402) / 100) && Nat.blt 0 ((i - 2402) % 10)) && hd_ne A ((i - 2402) / 10 % 10)) then [2402 + (((i - 2402) / 100 * 10 + ((i - 2402) / 10 % 10 % ((i - 2402) / 100) + 1)) * 10 + ((i - 2402) % 10 - 1))] else []
set_option maxRecDepth 20000 in
theorem g_wk_ok (E : AEnv) (ρ : Nat → Int) (A : AS) (σ : pm_S) (i j : Nat) (g : as_r w1 E ρ A σ) (hi : w1.1.2.1 i σ.2.2.2.1) (hj : j ∈ g_wk A i) : w1.1.2.1 j σ.2.2.2.1 := by
  unfold g_wk at hj
  cases hb : ((Nat.ble 2402 i && Nat.blt i 3402) && ((Nat.blt 0 ((i - 2402) / 100) && Nat.blt 0 ((i - 2402) % 10)) && hd_ne A ((i - 2402) / 10 % 10))) with
  | false => rw [hb] at hj; exact absurd hj List.not_mem_nil
  | true =>
    rw [hb] at hj
    rw [Bool.and_eq_true, Bool.and_eq_true, Bool.and_eq_true, Bool.and_eq_true] at hb
    obtain ⟨R, v, d, hR, hv', hd, e, ed, ev, eR⟩ := hfd_dec hb.1.1 hb.1.2
    have hR0 : 0 < R := by rw [eR]; exact Nat.le_of_ble_eq_true hb.2.1.1
    have hd0 : 0 < d := by rw [ed]; exact Nat.le_of_ble_eq_true hb.2.1.2
    have hne : ¬ hv σ.2.2.2.1 v = -1 := by rw [ev]; exact hd_ne_ok g hb.2.2
    have hj := List.mem_singleton.mp hj
    subst hj
    rw [← eR, ← ev, ← ed]
    have hm := Nat.mod_lt v hR0
    rw [show 2402 + ((R * 10 + (v % R + 1)) * 10 + (d - 1)) = 1202 + (1200 + ((R * 10 + (v % R + 1)) * 10 + (d - 1))) by omega, w1_hfd hR (by omega) (by omega)]
    rw [e, w1_hfd hR hv' hd, show d = (d - 1) + 1 by omega] at hi
    cases hi with
    | inl h => exact absurd h hne
    | inr h => exact h
noncomputable def b_wk (A : AS) (i : Nat) : Bool := (Nat.ble 2402 i && Nat.blt i 3402) && (Nat.beq ((i - 2402) % 10) 0 && hd_ne A ((i - 2402) / 10 % 10))
set_option maxRecDepth 20000 in
theorem b_wk_ok (E : AEnv) (ρ : Nat → Int) (A : AS) (σ : pm_S) (i : Nat) (g : as_r w1 E ρ A σ) (hi : w1.1.2.1 i σ.2.2.2.1) (hb : b_wk A i = true) : False := by
  unfold b_wk at hb
  rw [Bool.and_eq_true, Bool.and_eq_true, Bool.and_eq_true] at hb
  obtain ⟨R, v, d, hR, hv', hd, e, ed, ev, eR⟩ := hfd_dec hb.1.1 hb.1.2
  have hd0 : d = 0 := by rw [ed]; exact Nat.eq_of_beq_eq_true hb.2.1
  have hne : ¬ hv σ.2.2.2.1 v = -1 := by rw [ev]; exact hd_ne_ok g hb.2.2
  subst hd0
  rw [e, w1_hfd hR hv' (by omega)] at hi
  exact hne hi
/-- a free one is near -/
noncomputable def g_hf (p : Nat) (A : AS) (i : Nat) : List Nat := bif ((Nat.ble 1210 i && Nat.blt i 2310) && Nat.beq ((i - 1210) % 11) 10) && Nat.blt ((i - 1210) / 11 % 10) ((i - 1210) / 110) then (match as_get A.2.1 p with
  | some (.inl (k, o)) => (match iv_rng A.2.2.2.1 k o with
    | some (l, u) => bif (decide (l = u) && decide (1 ≤ l)) && decide (l ≤ (((i - 1210) / 110 : Nat) : Int)) then [2402 + (((i - 1210) / 110 * 10 + l.toNat) * 10 + ((i - 1210) / 110 - 1))] else (bif decide (l = 0) && decide (u = 0) then [2402 + (((i - 1210) / 110 * 10 + 0) * 10 + (i - 1210) / 110)] else [])
    | none => [])
  | _ => []) else []
set_option maxRecDepth 20000 in
theorem g_hf_ok (p i j : Nat) (A : AS) (h : pm_H) (hi : w1.1.2.1 i h) (hj : j ∈ g_hf p A i) : w1.1.2.1 j h := by
  unfold g_hf at hj
  cases hb : (((Nat.ble 1210 i && Nat.blt i 2310) && Nat.beq ((i - 1210) % 11) 10) && Nat.blt ((i - 1210) / 11 % 10) ((i - 1210) / 110)) with
  | false => rw [hb] at hj; exact absurd hj List.not_mem_nil
  | true =>
    rw [hb, cond_true] at hj
    rw [Bool.and_eq_true, Bool.and_eq_true, Bool.and_eq_true] at hb
    obtain ⟨R, k, v, hR, hk, hv', e, ev, ek, eR⟩ := cnt_dec hb.1.1.1 hb.1.1.2
    have hv10 : v = 10 := by rw [ev]; exact Nat.eq_of_beq_eq_true hb.1.2
    have hkR : k < R := by rw [ek, eR]; exact Nat.le_of_ble_eq_true hb.2
    subst hv10
    rw [← eR] at hj
    split at hj
    · rename_i kk o _
      split at hj
      · rename_i l u _
        cases hc : ((decide (l = u) && decide (1 ≤ l)) && decide (l ≤ (R : Int))) with
        | false =>
          rw [hc, cond_false] at hj
          cases hz : (decide (l = 0) && decide (u = 0)) with
          | false => rw [hz] at hj; exact absurd hj List.not_mem_nil
          | true =>
            rw [hz] at hj
            have hj := List.mem_singleton.mp hj
            subst hj
            rw [show 2402 + ((R * 10 + 0) * 10 + R) = 1202 + (1200 + ((R * 10 + 0) * 10 + R)) by omega, w1_hfd hR (by omega) (by omega)]
            rw [e, w1_cnt hR hk (by omega)] at hi
            cases hi with
            | inr h9 => omega
            | inl h' =>
              rw [show R = (R - 1) + 1 by omega]
              right
              rw [show R - 1 + 1 = R by omega, Nat.zero_mod]
              exact hfd_free hR (by omega) (by omega) (by omega)
        | true =>
          rw [hc] at hj
          simp only [Bool.and_eq_true, decide_eq_true_eq] at hc
          have hj := List.mem_singleton.mp hj
          subst hj
          rw [show 2402 + ((R * 10 + l.toNat) * 10 + (R - 1)) = 1202 + (1200 + ((R * 10 + l.toNat) * 10 + (R - 1))) by omega, w1_hfd hR (by omega) (by omega)]
          rw [e, w1_cnt hR hk (by omega)] at hi
          cases hi with
          | inr h9 => omega
          | inl h' => exact hfd_free hR (by omega) (by omega) (by omega)
      · exact absurd hj List.not_mem_nil
    · exact absurd hj List.not_mem_nil
noncomputable def b_no (_ : AS) (_ : Nat) : Bool := false
noncomputable def g_no (_ : AS) (_ : Nat) : List Nat := []
noncomputable def k_cw (_ : Nat) (A : AS) : List AS := hint1 g_cw b_no A
theorem k_cw_ok (f : Nat) (E : AEnv) (A : AS) (σ : pm_S) (g : as_g w1 E A σ) : ∃ B ∈ k_cw f A, as_g w1 E B σ := hint1_ok (fun _ _ A σ i j _ h1 h2 => g_cw_ok i j A _ h1 h2) (fun _ _ _ _ _ _ _ h => by cases h) E A σ g
noncomputable def k_ci (_ : Nat) (A : AS) : List AS := hint1 g_ci b_no A
theorem k_ci_ok (f : Nat) (E : AEnv) (A : AS) (σ : pm_S) (g : as_g w1 E A σ) : ∃ B ∈ k_ci f A, as_g w1 E B σ := hint1_ok (fun _ _ A σ i j _ h1 h2 => g_ci_ok i j A _ h1 h2) (fun _ _ _ _ _ _ _ h => by cases h) E A σ g
noncomputable def k_wk (_ : Nat) (A : AS) : List AS := hint1 g_wk b_wk A
theorem k_wk_ok (f : Nat) (E : AEnv) (A : AS) (σ : pm_S) (g : as_g w1 E A σ) : ∃ B ∈ k_wk f A, as_g w1 E B σ := hint1_ok g_wk_ok b_wk_ok E A σ g
noncomputable def k_hf (p : Nat) (A : AS) : List AS := hint1 (g_hf p) b_no A
theorem k_hf_ok (p : Nat) (E : AEnv) (A : AS) (σ : pm_S) (g : as_g w1 E A σ) : ∃ B ∈ k_hf p A, as_g w1 E B σ := hint1_ok (fun _ _ A σ i j _ h1 h2 => g_hf_ok p i j A _ h1 h2) (fun _ _ _ _ _ _ _ h => by cases h) E A σ g
/-- none is held -/
noncomputable def k_c0 (R : Nat) (A : AS) : List AS := [bif Nat.ble R 9 && (List.range R).all (fun q => match mem_get A.2.2.2.2.1 90 (q + 1) with
  | some (.inl (k, o)) => (match iv_rng A.2.2.2.1 k o with | some (l, u) => decide (l = -1) && decide (u = -1) | none => false)
  | _ => false) then add_fl A (1202 + (8 + ((R * 10 + 0) * 11 + 10))) else A]
theorem k_c0_ok (R : Nat) (E : AEnv) (A : AS) (σ : pm_S) (g : as_g w1 E A σ) : ∃ B ∈ k_c0 R A, as_g w1 E B σ := by
  refine ⟨_, List.mem_singleton_self _, ?_⟩
  cases hb : (Nat.ble R 9 && (List.range R).all (fun q => match mem_get A.2.2.2.2.1 90 (q + 1) with
    | some (.inl (k, o)) => (match iv_rng A.2.2.2.1 k o with | some (l, u) => decide (l = -1) && decide (u = -1) | none => false)
    | _ => false)) with
  | false => exact g
  | true =>
    obtain ⟨ρ, g⟩ := g
    rw [Bool.and_eq_true] at hb
    have hR := Nat.le_of_ble_eq_true hb.1
    refine ⟨ρ, add_fl_ok g ?_⟩
    rw [w1_cnt hR (by omega) (by omega)]
    left
    rw [cntf_zero]
    · omega
    · intro q h1 h2
      have h3 := List.all_eq_true.mp hb.2 (q - 1) (List.mem_range.mpr (by omega))
      rw [show q - 1 + 1 = q by omega] at h3
      split at h3
      · rename_i k o e
        split at h3
        · rename_i l u r
          simp only [Bool.and_eq_true, decide_eq_true_eq] at h3
          obtain ⟨x, p1, p2⟩ := g.2.2.2.2.2.1 _ _ (mem_get_in e)
          obtain ⟨y, rfl, p2⟩ := av_int p2
          have := iv_rng_ok g.1 p2 r
          unfold hv
          dsimp only at p1
          rw [p1]
          dsimp only
          omega
        · cases h3
      · cases h3
/-- cars are at most places -/
noncomputable def k_cp (r : Nat) (A : AS) : List AS := bif A.2.2.2.2.2.2.1.contains (1202 + r) && Nat.blt r 8 then (match mem_get A.2.2.2.2.1 84 (6 * r), mem_get A.2.2.2.2.1 84 (6 * r + 3) with
  | some (.inl (k, o)), some (.inl (k', o')) => (match iv_rng A.2.2.2.1 k o with
    | some (_, u) => (match iv_nar A.2.2.2.1 k' o' (-2147483648) u with | some iv' => [set_iv A iv'] | none => [])
    | none => [A])
  | _, _ => [A]) else [A]
theorem k_cp_ok (r : Nat) (E : AEnv) (A : AS) (σ : pm_S) (g : as_g w1 E A σ) : ∃ B ∈ k_cp r A, as_g w1 E B σ := by
  have self : ∃ B ∈ [A], as_g w1 E B σ := ⟨A, List.mem_singleton_self _, g⟩
  unfold k_cp
  cases hc : (A.2.2.2.2.2.2.1.contains (1202 + r) && Nat.blt r 8) with
  | false => exact self
  | true =>
    rw [cond_true]
    rw [Bool.and_eq_true] at hc
    split
    · rename_i k o k' o' e1 e2
      split
      · rename_i l u rr
        obtain ⟨ρ, g⟩ := g
        have hF := fl_of g hc.1
        rw [w1_new] at hF
        unfold fl3 at hF
        rw [hc.2] at hF
        have hF : CPf r σ.2.2.2.1 := hF
        obtain ⟨v1, p1, q1⟩ := g.2.2.2.2.2.1 _ _ (mem_get_in e1)
        obtain ⟨v2, p2, q2⟩ := g.2.2.2.2.2.1 _ _ (mem_get_in e2)
        obtain ⟨x, rfl, q1⟩ := av_int q1
        obtain ⟨y, rfl, q2⟩ := av_int q2
        have b1 := iv_rng_ok g.1 q1 rr
        have h7 := hF y x p2 p1
        obtain ⟨iv', e3, e4, e5⟩ := iv_nar_ok (lo := -2147483648) (hi := u) g.1 q2 (ai_lo y) (by omega)
        rw [e3]
        exact ⟨_, List.mem_singleton_self _, ρ, as_iv g e4 e5⟩
      · exact self
    · exact self
/-- what lies at a place is told apart -/
noncomputable def k_ld (f : Nat) (A : AS) : List AS := h_ld f A
theorem k_ld_ok (f : Nat) (E : AEnv) (A : AS) (σ : pm_S) (g : as_g w1 E A σ) : ∃ B ∈ k_ld f A, as_g w1 E B σ := by
  have self : ∃ B ∈ [A], as_g w1 E B σ := ⟨A, List.mem_singleton_self _, g⟩
  unfold k_ld h_ld
  split
  · rename_i a k _
    split
    · rename_i lo hi _ eb
      cases hb : decide (0 ≤ lo) with
      | false => exact self
      | true =>
        have hb := of_decide_eq_true hb
        obtain ⟨ρ, g1, g2, g3, g4, g5⟩ := g
        obtain ⟨x, e1, e2, e3⟩ := ld_b_ok (h := σ.2.2.2.1) g5.1 eb
        refine ⟨_, ld_each_in (j := x.toInt.toNat) _ _ (by omega) (by omega), ρ, g1, g2, g3, g4, ex_note_ok g5 e1 ?_⟩
        show x.toInt = ((x.toInt.toNat : Nat) : Int)
        omega
    · exact self
  · exact self
/-- one limb up -/
noncomputable def hg_ex (A : AS) (v : Nat) : Option Nat := match mem_get A.2.2.2.2.1 92 v with
  | some (.inl (k, o)) => (match iv_rng A.2.2.2.1 k o with | some (l, u) => bif (decide (l = u) && decide (0 ≤ l)) && decide (l < 10) then some l.toNat else none | none => none)
  | _ => none
theorem hg_ex_ok {w : AW} {E : AEnv} {ρ : Nat → Int} {A : AS} {σ : pm_S} {v u : Nat} (g : as_r w E ρ A σ) (h : hg_ex A v = some u) : hg σ.2.2.2.1 v = u ∧ u < 10 := by
  unfold hg_ex at h
  split at h
  · rename_i k o e
    split at h
    · rename_i l uu r
      cases hb : ((decide (l = uu) && decide (0 ≤ l)) && decide (l < 10)) with
      | false => rw [hb] at h; cases h
      | true =>
        rw [hb] at h
        cases h
        simp only [Bool.and_eq_true, decide_eq_true_eq] at hb
        obtain ⟨x, p, q⟩ := g.2.2.2.2.2.1 _ _ (mem_get_in e)
        obtain ⟨y, rfl, q⟩ := av_int q
        have := iv_rng_ok g.1 q r
        refine ⟨?_, by omega⟩
        unfold hg
        dsimp only at p
        rw [p]
        dsimp only
        omega
    · cases h
  · cases h
theorem dep_dec {i : Nat} (h1 : Nat.ble 3402 i = true) (h2 : Nat.blt i 3502 = true) : ∃ v d, v < 10 ∧ d < 10 ∧ i = 1202 + (2200 + (v * 10 + d)) ∧ d = (i - 3402) % 10 ∧ v = (i - 3402) / 10 := by
  have a := Nat.le_of_ble_eq_true h1
  have b : i < 3502 := Nat.le_of_ble_eq_true h2
  exact ⟨(i - 3402) / 10, (i - 3402) % 10, by omega, by omega, by omega, rfl, rfl⟩
noncomputable def g_dp (A : AS) (i : Nat) : List Nat := bif (Nat.ble 3402 i && Nat.blt i 3502) && (Nat.blt 0 ((i - 3402) % 10) && Nat.blt 0 ((i - 3402) / 10)) then (match hg_ex A ((i - 3402) / 10) with
  | some u => [3402 + (u * 10 + ((i - 3402) % 10 - 1))]
  | none => []) else []
set_option maxRecDepth 20000 in
theorem g_dp_ok (E : AEnv) (ρ : Nat → Int) (A : AS) (σ : pm_S) (i j : Nat) (g : as_r w1 E ρ A σ) (hi : w1.1.2.1 i σ.2.2.2.1) (hj : j ∈ g_dp A i) : w1.1.2.1 j σ.2.2.2.1 := by
  unfold g_dp at hj
  cases hb : ((Nat.ble 3402 i && Nat.blt i 3502) && (Nat.blt 0 ((i - 3402) % 10) && Nat.blt 0 ((i - 3402) / 10))) with
  | false => rw [hb] at hj; exact absurd hj List.not_mem_nil
  | true =>
    rw [hb, cond_true] at hj
    rw [Bool.and_eq_true, Bool.and_eq_true, Bool.and_eq_true] at hb
    obtain ⟨v, d, hv', hd, e, ed, ev⟩ := dep_dec hb.1.1 hb.1.2
    have hd0 : 0 < d := by rw [ed]; exact Nat.le_of_ble_eq_true hb.2.1
    have hv0 : 0 < v := by rw [ev]; exact Nat.le_of_ble_eq_true hb.2.2
    rw [← ev, ← ed] at hj
    split at hj
    · rename_i u hu
      obtain ⟨q1, q2⟩ := hg_ex_ok g hu
      have hj := List.mem_singleton.mp hj
      subst hj
      rw [show 3402 + (u * 10 + (d - 1)) = 1202 + (2200 + (u * 10 + (d - 1))) by omega, w1_dep q2 (by omega)]
      rw [e, w1_dep hv' hd, show d = (d - 1) + 1 by omega] at hi
      cases hi with
      | inl h => omega
      | inr h => rw [q1] at h; exact h
    · exact absurd hj List.not_mem_nil
noncomputable def b_dp (_ : AS) (i : Nat) : Bool := (Nat.ble 3402 i && Nat.blt i 3502) && (Nat.beq ((i - 3402) % 10) 0 && Nat.blt 0 ((i - 3402) / 10))
set_option maxRecDepth 20000 in
theorem b_dp_ok (E : AEnv) (ρ : Nat → Int) (A : AS) (σ : pm_S) (i : Nat) (_ : as_r w1 E ρ A σ) (hi : w1.1.2.1 i σ.2.2.2.1) (hb : b_dp A i = true) : False := by
  unfold b_dp at hb
  rw [Bool.and_eq_true, Bool.and_eq_true, Bool.and_eq_true] at hb
  obtain ⟨v, d, hv', hd, e, ed, ev⟩ := dep_dec hb.1.1 hb.1.2
  have hd0 : d = 0 := by rw [ed]; exact Nat.eq_of_beq_eq_true hb.2.1
  have hv0 : 0 < v := by rw [ev]; exact Nat.le_of_ble_eq_true hb.2.2
  subst hd0
  rw [e, w1_dep hv' (by omega)] at hi
  have hi : v = 0 := hi
  omega
noncomputable def k_dp (_ : Nat) (A : AS) : List AS := hint1 g_dp b_dp A
theorem k_dp_ok (f : Nat) (E : AEnv) (A : AS) (σ : pm_S) (g : as_g w1 E A σ) : ∃ B ∈ k_dp f A, as_g w1 E B σ := hint1_ok g_dp_ok b_dp_ok E A σ g
end
section
/-! what is proved by hand, as the checks use it (written by emit.py) -/
noncomputable def So0 : Sum1 := (230, [cL (-9223372036854775808) 9223372036854775807, cL 1 1], [], [], [], [([cL (-9223372036854775808) 9223372036854775807, cL 1 1], [], [], some (.inl (cL 1 9223372036854775807)))])
theorem qo0 : sum_g w0 (pm_Rt pm_P 56) So0 := common_sum (-9223372036854775808) 9223372036854775807 1 1 (by decide) (by decide)
noncomputable def So1 : Sum1 := (230, [cL (-9223372036854775808) 9223372036854775807, cL 1 100000000], [], [], [], [([cL (-9223372036854775808) 9223372036854775807, cL 1 100000000], [], [], some (.inl (cL 1 9223372036854775807)))])
theorem qo1 : sum_g w0 (pm_Rt pm_P 56) So1 := common_sum (-9223372036854775808) 9223372036854775807 1 100000000 (by decide) (by decide)
noncomputable def So2 : Sum1 := (230, [cL (-9223372036854775808) 9223372036854775807, cL 2 40320], [], [], [], [([cL (-9223372036854775808) 9223372036854775807, cL 2 40320], [], [], some (.inl (cL 1 9223372036854775807)))])
theorem qo2 : sum_g w0 (pm_Rt pm_P 56) So2 := common_sum (-9223372036854775808) 9223372036854775807 2 40320 (by decide) (by decide)
end
section
/-! what is known of the methods, checked (written by emit.py) -/
noncomputable def S962 : Sum1 := (322, [cL (-9223372036854775808) 9223372036854775807, cL 2 40320, cI 0 1], [], [], [], [([cL (-9223372036854775808) 9223372036854775807, cL 2 40320, cI 0 1], [], [], some (.inl (cL (-9223372036854775808) 9223372036854775807)))])
theorem q962 : sum_g w0 (pm_Rt pm_P 57) S962 := meth_ok (d := 56) (cuts := []) (spl := []) (K := [0, 2, 4]) (N := 10) (sums := [So2]) aiX9_partOf (abX9_partOf w0) (by decide) (List.forall_mem_cons.mpr ⟨sum_up qo2 0, fun _ h => absurd h List.not_mem_nil⟩) (by decide +kernel)
noncomputable def S963 : Sum1 := (322, [cL (-9223372036854775808) 9223372036854775807, cL 1 1, cI 0 1], [], [], [], [([cL (-9223372036854775808) 9223372036854775807, cL 1 1, cI 0 1], [], [], some (.inl (cL (-9223372036854775808) 9223372036854775807)))])
theorem q963 : sum_g w0 (pm_Rt pm_P 57) S963 := meth_ok (d := 56) (cuts := []) (spl := []) (K := [0, 2, 4]) (N := 10) (sums := [So0]) aiX9_partOf (abX9_partOf w0) (by decide) (List.forall_mem_cons.mpr ⟨sum_up qo0 0, fun _ h => absurd h List.not_mem_nil⟩) (by decide +kernel)
noncomputable def S964 : Sum1 := (344, [cR 77, cI (-2147483648) 2147483647, cI (-2147483648) 2147483647], [], [125], [(77, 0, 0), (77, 22, 23), (77, 27, 27), (89, 0, 7), (90, 0, 9), (91, 0, 7)], [([cR 77, cI (-2147483648) 2147483647, cI (-2147483648) 2147483647], [], [], some (.inl (cI (-2147483648) 2147483647)))])
theorem q964 : sum_g w0 (pm_Rt pm_P 58) S964 := meth_ok (d := 57) (cuts := [(30, [([(0, cR 77), (1, cI 0 7), (2, cI 0 1), (3, cL (-9223372036854775808) 9223372036854775807), (5, cI 0 256)], [], [((77, 0), 0, 0)], [125], [.inl 0, .inr (.inl 5, true), .inl 0])])]) (spl := []) (K := [0, 1, 2]) (N := 44) (sums := [S112, S731, S740, S732, S744, S738, S741, S747, S745, S742, S746, S739, S616, S646, S114, S116, S963, S962]) aiX9_share (abX9_share w0) (by decide) (List.forall_mem_cons.mpr ⟨sum_up q112 56, List.forall_mem_cons.mpr ⟨sum_up q731 56, List.forall_mem_cons.mpr ⟨sum_up q740 52, List.forall_mem_cons.mpr ⟨sum_up q732 56, List.forall_mem_cons.mpr ⟨sum_up q744 49, List.forall_mem_cons.mpr ⟨sum_up q738 50, List.forall_mem_cons.mpr ⟨sum_up q741 51, List.forall_mem_cons.mpr ⟨sum_up q747 49, List.forall_mem_cons.mpr ⟨sum_up q745 52, List.forall_mem_cons.mpr ⟨sum_up q742 52, List.forall_mem_cons.mpr ⟨sum_up q746 52, List.forall_mem_cons.mpr ⟨sum_up q739 52, List.forall_mem_cons.mpr ⟨sum_up q616 56, List.forall_mem_cons.mpr ⟨sum_up q646 56, List.forall_mem_cons.mpr ⟨sum_up q114 55, List.forall_mem_cons.mpr ⟨sum_up q116 55, List.forall_mem_cons.mpr ⟨sum_up q963 0, List.forall_mem_cons.mpr ⟨sum_up q962 0, fun _ h => absurd h List.not_mem_nil⟩⟩⟩⟩⟩⟩⟩⟩⟩⟩⟩⟩⟩⟩⟩⟩⟩⟩) (by decide +kernel)
noncomputable def S965 : Sum1 := (322, [cL (-9223372036854775808) 9223372036854775807, cL 1 100000000, cI 0 1], [], [], [], [([cL (-9223372036854775808) 9223372036854775807, cL 1 100000000, cI 0 1], [], [], some (.inl (cL (-9223372036854775808) 9223372036854775807)))])
theorem q965 : sum_g w0 (pm_Rt pm_P 57) S965 := meth_ok (d := 56) (cuts := []) (spl := []) (K := [0, 2, 4]) (N := 10) (sums := [So1]) aiX9_partOf (abX9_partOf w0) (by decide) (List.forall_mem_cons.mpr ⟨sum_up qo1 0, fun _ h => absurd h List.not_mem_nil⟩) (by decide +kernel)
noncomputable def S966 : Sum1 := (226, [cR 77, cI (-2147483648) 2147483647, cI (-2147483648) 2147483647], [], [125], [(77, 0, 0), (77, 22, 23), (77, 27, 27), (89, 0, 7), (90, 0, 9), (91, 0, 7)], [([cR 77, cI (-2147483648) 2147483647, cI (-2147483648) 2147483647], [], [], some (.inl (cI (-2147483648) 2147483647)))])
theorem q966 : sum_g w0 (pm_Rt pm_P 58) S966 := meth_ok (d := 57) (cuts := []) (spl := []) (K := [0, 1, 2]) (N := 24) (sums := [S112, S821, S830, S114, S116, S965]) aiX9_chance (abX9_chance w0) (by decide) (List.forall_mem_cons.mpr ⟨sum_up q112 56, List.forall_mem_cons.mpr ⟨sum_up q821 47, List.forall_mem_cons.mpr ⟨sum_up q830 48, List.forall_mem_cons.mpr ⟨sum_up q114 55, List.forall_mem_cons.mpr ⟨sum_up q116 55, List.forall_mem_cons.mpr ⟨sum_up q965 0, fun _ h => absurd h List.not_mem_nil⟩⟩⟩⟩⟩⟩) (by decide +kernel)
noncomputable def S967 : Sum1 := (310, [cR 77, cI (-2147483648) 2147483647], [], [125], [(77, 0, 0), (77, 22, 23), (77, 27, 27), (89, 0, 7), (90, 0, 9), (91, 0, 7)], [([cR 77, cI (-2147483648) 2147483647], [], [], some (.inl (cL (-9223372036854775808) 9223372036854775807)))])
theorem q967 : sum_g w0 (pm_Rt pm_P 58) S967 := meth_ok (d := 57) (cuts := []) (spl := []) (K := [0, 1]) (N := 21) (sums := [S160, S845, S112, S830, S116, S965]) aiX9_mean (abX9_mean w0) (by decide) (List.forall_mem_cons.mpr ⟨sum_up q160 56, List.forall_mem_cons.mpr ⟨sum_up q845 47, List.forall_mem_cons.mpr ⟨sum_up q112 56, List.forall_mem_cons.mpr ⟨sum_up q830 48, List.forall_mem_cons.mpr ⟨sum_up q116 55, List.forall_mem_cons.mpr ⟨sum_up q965 0, fun _ h => absurd h List.not_mem_nil⟩⟩⟩⟩⟩⟩) (by decide +kernel)
end
section
/-! sums about numbers: rows that count, trees by the order in which nodes come, bits -/
noncomputable def TL (f : Nat → Nat) : List Nat → Prop
  | [] => True
  | v :: L => v ≠ 0 ∧ v ∉ L ∧ (f v = 0 ∨ f v ∈ L) ∧ TL f L
theorem dep_zero (f : Nat → Nat) : ∀ d, dep f d 0
  | 0 => rfl
  | _ + 1 => .inl rfl
theorem dep_up1 {f : Nat → Nat} : ∀ {d v : Nat}, dep f d v → dep f (d + 1) v
  | 0, _, h => .inl h
  | _ + 1, _, .inl h => .inl h
  | _ + 1, _, .inr h => .inr (dep_up1 h)
theorem dep_le {f : Nat → Nat} {d v : Nat} (h : dep f d v) : ∀ {e : Nat}, d ≤ e → dep f e v
  | 0, he => by
    have : d = 0 := by omega
    subst this
    exact h
  | e + 1, he => by
    by_cases hd : d = e + 1
    · subst hd; exact h
    · exact dep_up1 (dep_le h (e := e) (by omega))
theorem TL_dep {f : Nat → Nat} : ∀ {L : List Nat}, TL f L → ∀ v, v ∈ L → dep f L.length v
  | [], _, v, hv => absurd hv List.not_mem_nil
  | u :: L, h, v, hv => by
    have ih : ∀ v, v ∈ L → dep f L.length v := TL_dep h.2.2.2
    show dep f (L.length + 1) v
    cases List.mem_cons.mp hv with
    | inr hv => exact dep_up1 (ih v hv)
    | inl e =>
      subst e
      right
      cases h.2.2.1 with
      | inl h0 => rw [h0]; exact dep_zero f _
      | inr h1 => exact ih _ h1
theorem TL_upd {f g : Nat → Nat} : ∀ {L : List Nat}, (∀ v, v ∈ L → g v = f v) → TL f L → TL g L
  | [], _, _ => trivial
  | u :: L, hfg, h => by
    refine ⟨h.1, h.2.1, ?_, TL_upd (fun v hv => hfg v (List.mem_cons_of_mem _ hv)) h.2.2.2⟩
    rw [hfg u List.mem_cons_self]
    exact h.2.2.1
end
section
/-! by hand: how many want so, lawful rows (written by gen_t2.py) -/
theorem wn_loop {h : pm_H} {d p : Nat} (hh : HH h) (hp : p < 2147483648) (k : Nat) : ∀ {c n : Nat}, n = cw (gn h 89) p c → ∀ (lv : List (Nat × Value)), c + k = gn h 84 3 → pm_get lv 0 = some (.ref 77) → pm_get lv 1 = some (.int (nJ p)) → pm_get lv 2 = some (.int (nJ n)) → pm_get lv 3 = some (.int (nJ c)) → Ends (pm_at tX9_wanting) (pm_Rt pm_P (d + 1)) (4, lv, [], h, 0, 0) (fun h' r => h' = h ∧ r = some (.int (nJ (cw (gn h 89) p (gn h 84 3))))) := by
  have hC : gn h 84 3 ≤ 8 := gn_hi hh rfl (by decide)
  induction k with
  | zero =>
    intro c n hn lv hk L0 L1 L2 L3
    have hn8 := cw_le (gn h 89) p c
    refine E_il rfl L3 ?_
    refine E_al rfl L0 ?_
    refine E_call rfl (sp_cars hh) (chk77 hh rfl rfl (by show 1 ≤ 8; decide)) (fun h1 r1 => ?_)
    rintro ⟨e1, f1, c1⟩
    rw [e1, f1]
    show Ends _ _ (9, lv, [.int (nJ (gn h 84 3)), .int (nJ c)], h, 0, 0) _
    refine E_icT rfl (decide_eq_true ((nJ_le (by omega) (by omega)).mpr (by omega))) ?_
    refine E_il rfl L2 ?_
    exact E_rti rfl ⟨rfl, by rw [hn, show gn h 84 3 = c by omega]⟩
  | succ k ih =>
    intro c n hn lv hk L0 L1 L2 L3
    have hn8 := cw_le (gn h 89) p c
    refine E_il rfl L3 ?_
    refine E_al rfl L0 ?_
    refine E_call rfl (sp_cars hh) (chk77 hh rfl rfl (by show 1 ≤ 8; decide)) (fun h1 r1 => ?_)
    rintro ⟨e1, f1, c1⟩
    rw [e1, f1]
    show Ends _ _ (9, lv, [.int (nJ (gn h 84 3)), .int (nJ c)], h, 0, 0) _
    refine E_icF rfl (decide_eq_false (fun q => absurd ((nJ_le (by omega) (by omega)).mp q) (by omega))) ?_
    refine E_il rfl L2 ?_
    refine E_al rfl L0 ?_
    refine E_gr rfl hh (q := 89) rfl ?_
    refine E_il rfl L3 ?_
    have b2 : gn h 89 c ≤ 8 := gn_hi hh (bd_u rfl (by omega)) (by decide)
    refine E_ial rfl hh rfl (by omega) (by decide) (gi_gn hh (bd_u rfl (by omega)) (by decide)) ?_
    refine E_il rfl L1 ?_
    by_cases hb3 : p < (gn h 89 c)
    · refine E_icT rfl (decide_eq_true ((nJ_lt (by omega) (by omega)).mpr hb3)) ?_
      refine E_ci 0 rfl (by decide) ?_
      refine E_bin rfl (nJ_add _ _) ?_
      refine E_is rfl (fun lv4 L4_2 kp4 => ?_)
      have L4_0 := kp4 0 _ (by decide) rfl L0
      have L4_1 := kp4 1 _ (by decide) rfl L1
      have L4_3 := kp4 3 _ (by decide) rfl L3
      refine E_inc rfl L4_3 (nJ_inc _) (fun lv5 L5_3 kp5 => ?_)
      have L5_0 := kp5 0 _ (by decide) rfl L4_0
      have L5_1 := kp5 1 _ (by decide) rfl L4_1
      have L5_2 := kp5 2 _ (by decide) rfl L4_2
      refine E_goto rfl ?_
      refine ih (c := c + 1) (n := (n + 0)) ?_ lv5 (by omega) L5_0 L5_1 L5_2 L5_3
      rw [hn, cw_F (by omega)]
    · refine E_icF rfl (decide_eq_false (fun q => hb3 ((nJ_lt (by omega) (by omega)).mp q))) ?_
      refine E_ci 1 rfl (by decide) ?_
      refine E_goto rfl ?_
      refine E_bin rfl (nJ_add _ _) ?_
      refine E_is rfl (fun lv6 L6_2 kp6 => ?_)
      have L6_0 := kp6 0 _ (by decide) rfl L0
      have L6_1 := kp6 1 _ (by decide) rfl L1
      have L6_3 := kp6 3 _ (by decide) rfl L3
      refine E_inc rfl L6_3 (nJ_inc _) (fun lv7 L7_3 kp7 => ?_)
      have L7_0 := kp7 0 _ (by decide) rfl L6_0
      have L7_1 := kp7 1 _ (by decide) rfl L6_1
      have L7_2 := kp7 2 _ (by decide) rfl L6_2
      refine E_goto rfl ?_
      refine ih (c := c + 1) (n := (n + 1)) ?_ lv7 (by omega) L7_0 L7_1 L7_2 L7_3
      rw [hn, cw_T (by omega)]
theorem sp_wanting {h : pm_H} {d p : Nat} (hh : HH h) (hp : p < 2147483648) : Sp (d + 2) 369 h [.ref 77, .int (nJ p)] (fun h' r => h' = h ∧ r = some (.int (nJ (cw (gn h 89) p (gn h 84 3))))) := by
  refine Sp_of aiX9_wanting rfl rfl rfl ?_
  refine E_ci 0 rfl (by decide) ?_
  refine E_is rfl (fun lv1 L1_2 kp1 => ?_)
  have L1_0 := kp1 0 _ (by decide) rfl (show pm_get (lv_args 0 [.ref 77, .int (nJ p)]) 0 = _ from rfl)
  have L1_1 := kp1 1 _ (by decide) rfl (show pm_get (lv_args 0 [.ref 77, .int (nJ p)]) 1 = _ from rfl)
  refine E_ci 0 rfl (by decide) ?_
  refine E_is rfl (fun lv2 L2_3 kp2 => ?_)
  have L2_0 := kp2 0 _ (by decide) rfl L1_0
  have L2_1 := kp2 1 _ (by decide) rfl L1_1
  have L2_2 := kp2 2 _ (by decide) rfl L1_2
  exact wn_loop hh hp (gn h 84 3) (c := 0) (n := 0) rfl lv2 (by omega) L2_0 L2_1 L2_2 L2_3
/-- lawful -/
noncomputable def LWf (h : pm_H) : Prop := gn h 84 3 = gn h 84 0 ∧ ∀ p, 1 ≤ p → p ≤ gn h 84 0 → p ≤ cw (gn h 89) p (gn h 84 0)
theorem lw_loop {h : pm_H} {d : Nat} (hh : HH h) (hCP : gn h 84 3 = gn h 84 0) (k : Nat) : ∀ {p : Nat}, p + k = gn h 84 0 + 1 → (∀ q, 1 ≤ q → q < p → q ≤ cw (gn h 89) q (gn h 84 3)) → ∀ (lv : List (Nat × Value)), pm_get lv 0 = some (.ref 77) → pm_get lv 1 = some (.int (nJ p)) → Ends (pm_at tX9_isLawful) (pm_Rt pm_P (d + 2)) (15, lv, [], h, 0, 0) (fun h' r => h' = h ∧ (r = some (.int (nJ 0)) ∨ r = some (.int (nJ 1)) ∧ LWf h)) := by
  have hP : gn h 84 0 ≤ 8 := gn_hi hh rfl (by decide)
  induction k with
  | zero =>
    intro p hk hp lv L0 L1
    refine E_il rfl L1 ?_
    refine E_al rfl L0 ?_
    refine E_call rfl (sp_places hh) (chk77 hh rfl rfl (by show 1 ≤ 8; decide)) (fun h1 r1 => ?_)
    rintro ⟨e1, f1, c1⟩
    rw [e1, f1]
    show Ends _ _ (20, lv, [.int (nJ (gn h 84 0)), .int (nJ p)], h, 0, 0) _
    refine E_icT rfl (decide_eq_true ((nJ_lt (by omega) (by omega)).mpr (by omega))) ?_
    refine E_ci 1 rfl (by decide) ?_
    exact E_rtz rfl (.inr rfl) ⟨rfl, .inr ⟨rfl, hCP, fun q h1 h2 => by have := hp q h1 (by omega); rw [hCP] at this; exact this⟩⟩
  | succ k ih =>
    intro p hk hp lv L0 L1
    refine E_il rfl L1 ?_
    refine E_al rfl L0 ?_
    refine E_call rfl (sp_places hh) (chk77 hh rfl rfl (by show 1 ≤ 8; decide)) (fun h1 r1 => ?_)
    rintro ⟨e1, f1, c1⟩
    rw [e1, f1]
    show Ends _ _ (20, lv, [.int (nJ (gn h 84 0)), .int (nJ p)], h, 0, 0) _
    refine E_icF rfl (decide_eq_false (fun q => absurd ((nJ_lt (by omega) (by omega)).mp q) (by omega))) ?_
    refine E_al rfl L0 ?_
    refine E_il rfl L1 ?_
    refine E_call rfl (sp_wanting hh (by omega)) (chk77 hh rfl rfl (by show 0 ≤ 8; decide)) (fun h2 r2 => ?_)
    rintro ⟨e2, f2⟩
    rw [e2, f2]
    have hw8 := cw_le (gn h 89) p (gn h 84 3)
    show Ends _ _ (28, lv, [.int (nJ (cw (gn h 89) p (gn h 84 3)))], h, 0, 0) _
    refine E_il rfl L1 ?_
    by_cases hb3 : p ≤ (cw (gn h 89) p (gn h 84 3))
    · refine E_icT rfl (decide_eq_true ((nJ_le (by omega) (by omega)).mpr hb3)) ?_
      refine E_inc rfl L1 (nJ_inc _) (fun lv4 L4_1 kp4 => ?_)
      have L4_0 := kp4 0 _ (by decide) rfl L0
      refine E_goto rfl ?_
      refine ih (p := p + 1) (by omega) (fun q h1 h2 => ?_) lv4 L4_0 L4_1
      by_cases hq : q = p
      · subst hq; omega
      · exact hp q h1 (by omega)
    · refine E_icF rfl (decide_eq_false (fun q => hb3 ((nJ_le (by omega) (by omega)).mp q))) ?_
      refine E_ci 0 rfl (by decide) ?_
      exact E_rtz rfl (.inl rfl) ⟨rfl, .inl rfl⟩
theorem sp_isLawful {h : pm_H} {d : Nat} (hh : HH h) : Sp (d + 3) 272 h [.ref 77] (fun h' r => h' = h ∧ (r = some (.int (nJ 0)) ∨ r = some (.int (nJ 1)) ∧ LWf h)) := by
  refine Sp_of aiX9_isLawful rfl rfl rfl ?_
  refine E_al rfl (show pm_get (lv_args 0 [.ref 77]) 0 = _ from rfl) ?_
  refine E_call rfl (sp_cars hh) (chk77 hh rfl rfl (by show 0 ≤ 8; decide)) (fun h1 r1 => ?_)
  rintro ⟨e1, f1, c1⟩
  rw [e1, f1]
  show Ends _ _ (4, (lv_args 0 [.ref 77]), [.int (nJ (gn h 84 3))], h, 0, 0) _
  refine E_al rfl (show pm_get (lv_args 0 [.ref 77]) 0 = _ from rfl) ?_
  refine E_call rfl (sp_places hh) (chk77 hh rfl rfl (by show 1 ≤ 8; decide)) (fun h2 r2 => ?_)
  rintro ⟨e2, f2, c2⟩
  rw [e2, f2]
  show Ends _ _ (8, (lv_args 0 [.ref 77]), [.int (nJ (gn h 84 0)), .int (nJ (gn h 84 3))], h, 0, 0) _
  by_cases hb3 : (gn h 84 3) = (gn h 84 0)
  · refine E_icT rfl (decide_eq_true ((nJ_eq (by omega) (by omega)).mpr hb3)) ?_
    refine E_ci 1 rfl (by decide) ?_
    refine E_is rfl (fun lv4 L4_1 kp4 => ?_)
    have L4_0 := kp4 0 _ (by decide) rfl (show pm_get (lv_args 0 [.ref 77]) 0 = _ from rfl)
    exact lw_loop hh (by omega) (gn h 84 0) (p := 1) (by omega) (fun q h1 h2 => by omega) lv4 L4_0 L4_1
  · refine E_icF rfl (decide_eq_false (fun q => hb3 ((nJ_eq (by omega) (by omega)).mp q))) ?_
    refine E_ci 0 rfl (by decide) ?_
    exact E_rtz rfl (.inl rfl) ⟨rfl, .inl rfl⟩
end
section
/-! by hand: the search (written by gen_t3.py) -/
noncomputable def GM : List Rng := [(77, 35, 36), (92, 0, 8), (97, 0, 7), (98, 0, 8)]
noncomputable def GS (h : pm_H) (C m : Nat) (g : Nat → Nat) (L : List Nat) : Prop := HH h ∧ gn h 84 3 = C ∧ gi h 77 35 = nJ m ∧ m < 512 ∧ gn h 77 36 = pcn m C + 1 ∧ (TL (gn h 92) L ∧ L.length = pcn m C) ∧ (∀ v, v ∈ L ↔ ∃ c, c < C ∧ v = c + 1 ∧ isB m c = true) ∧ ∀ c, c < C → (gi h 97 c = nJ (g c) ∨ gi h 97 c = -1 ∧ g c = 0) ∧ g c ≤ 8
noncomputable def GQ (h0 : pm_H) (C m0 : Nat) (g0 : Nat → Nat) (h' : pm_H) (r : Option Value) : Prop := r = none ∧ fr_g GM h0 h' ∧ ∃ m g L, GS h' C m g L ∧ (∀ c, c < C → isB m0 c = true → isB m c = true) ∧ ∀ c, c < C → isB m c = false → g c + 1 + pcn m C = g0 c + pcn m0 C
theorem GS_g0 {h : pm_H} {C m k : Nat} {g : Nat → Nat} {L : List Nat} (G : GS h C m g L) (hk : k < C) : gi h 97 k ≤ 0 ↔ g k = 0 := by
  obtain ⟨h1, h2⟩ := G.2.2.2.2.2.2.2 k hk
  cases h1 with
  | inl e => rw [e]; exact nJ_le0 (by omega)
  | inr e => rw [e.1, e.2]; exact ⟨fun _ => rfl, fun _ => by decide⟩
theorem GS_gk {h : pm_H} {C m k : Nat} {g : Nat → Nat} {L : List Nat} (G : GS h C m g L) (hk : k < C) (h0 : ¬ g k = 0) : gi h 97 k = nJ (g k) := by
  cases (G.2.2.2.2.2.2.2 k hk).1 with
  | inl e => exact e
  | inr e => exact absurd e.2 h0
theorem GS_dec {h : pm_H} {C m k : Nat} {g : Nat → Nat} {L : List Nat} (G : GS h C m g L) (hC : C ≤ 8) (hk : k < C) (h0 : ¬ g k = 0) : GS (pt h 97 k (nJ (g k - 1))) C m (fun c => if c = k then g k - 1 else g c) L := by
  obtain ⟨hh, g1, g2, g3, g4, g5, g6, g7⟩ := G
  have hk8 := (g7 k hk).2
  refine ⟨HH_ptn hh (bd_u rfl (by omega)) (by omega) (by omega) (by omega), ?_, ?_, g3, ?_, ?_, g6, fun c hc => ?_⟩
  · rw [gn_ne (by omega)]; exact g1
  · rw [gi_ne (by omega)]; exact g2
  · rw [gn_ne (by omega)]; exact g4
  · refine ⟨TL_upd (fun v _ => ?_) g5.1, g5.2⟩
    rw [gn_ne (by omega)]
  · dsimp only
    by_cases hck : c = k
    · subst hck
      rw [if_pos rfl]
      exact ⟨.inl (gi_pt hh (bd_u rfl (by omega)) (ai_lo _) (ai_hi _)), by omega⟩
    · rw [if_neg hck, gi_ne (fun _ => hck)]
      exact g7 c hc
theorem GS_add {h : pm_H} {C m m2 k node : Nat} {g : Nat → Nat} {L : List Nat} (G : GS h C m g L) (hC : C ≤ 8) (hk : k < C) (hz : isB m k = false) (hm2 : m2 = m + 2 ^ k) (hn : node = 0 ∨ node ∈ L) (hn8 : node ≤ 8) :
    GS (pt (pt (pt (pt h 77 35 (nJ m2)) 92 (k + 1) (nJ node)) 98 (pcn m C + 1) (nJ (k + 1))) 77 36 (nJ (pcn m C + 1 + 1))) C m2 g ((k + 1) :: L) := by
  obtain ⟨hh, g1, g2, g3, g4, g5, g6, g7⟩ := G
  have hp := pcn_lt hz hk
  have hm2l : m2 < 512 := by rw [hm2]; exact isB_add_lt g3 (by omega) hz
  have hh1 : HH (pt h 77 35 (nJ m2)) := HH_pt hh rfl (ai_lo _) (ai_hi _)
  have hh2 : HH (pt (pt h 77 35 (nJ m2)) 92 (k + 1) (nJ node)) := HH_ptn hh1 (bd_u rfl (by omega)) (by omega) (by omega) (by omega)
  have hh3 : HH (pt (pt (pt h 77 35 (nJ m2)) 92 (k + 1) (nJ node)) 98 (pcn m C + 1) (nJ (k + 1))) := HH_ptn hh2 (bd_u rfl (by omega)) (by omega) (by omega) (by omega)
  have hnL : k + 1 ∉ L := fun hm => by
    obtain ⟨c, c1, c2, c3⟩ := (g6 _).mp hm
    have : c = k := by omega
    subst this
    rw [hz] at c3
    cases c3
  have hB : ∀ c, c < C → isB m2 c = (c == k || isB m c) := fun c hc => by rw [hm2]; exact isB_add g3 (by omega) (by omega) hz
  refine ⟨HH_ptn hh3 rfl (by omega) (by omega) (by omega), ?_, ?_, hm2l, ?_, ⟨⟨by omega, hnL, ?_, ?_⟩, ?_⟩, fun v => ⟨fun hv => ?_, fun hv => ?_⟩, fun c hc => ?_⟩
  · rw [gn_ne (by omega), gn_ne (by omega), gn_ne (by omega), gn_ne (by omega)]; exact g1
  · rw [gi_ne (by omega), gi_ne (by omega), gi_ne (by omega)]; exact gi_pt hh rfl (ai_lo _) (ai_hi _)
  · rw [gn_ptn hh3 rfl (by omega) (by omega) (by omega), hm2, pcn_add g3 (by omega) hz (by omega), if_pos hk]
  · rw [gn_ne (by omega), gn_ne (by omega), gn_ptn hh1 (bd_u rfl (by omega)) (by omega) (by omega) (by omega)]; exact hn
  · refine TL_upd (fun v hv => ?_) g5.1
    have : v ≠ k + 1 := fun e => hnL (e ▸ hv)
    rw [gn_ne (by omega), gn_ne (by omega), gn_ne (fun _ => this), gn_ne (by omega)]
  · rw [List.length_cons, g5.2, hm2, pcn_add g3 (by omega) hz (by omega), if_pos hk]
  · cases List.mem_cons.mp hv with
    | inl e => exact ⟨k, hk, e, by rw [hB k hk, beq_self_eq_true]; rfl⟩
    | inr hv =>
      obtain ⟨c, c1, c2, c3⟩ := (g6 v).mp hv
      exact ⟨c, c1, c2, by rw [hB c c1, c3, Bool.or_true]⟩
  · obtain ⟨c, c1, c2, c3⟩ := hv
    rw [hB c c1] at c3
    by_cases hck : c = k
    · subst hck; rw [c2]; exact List.mem_cons_self
    · rw [show (c == k) = false from beq_eq_false_iff_ne.mpr hck, Bool.false_or] at c3
      exact List.mem_cons_of_mem _ ((g6 v).mpr ⟨c, c1, c2, c3⟩)
  · rw [gi_ne (by omega), gi_ne (by omega), gi_ne (by omega), gi_ne (by omega)]
    exact g7 c hc
theorem go_loop {u C node m0 : Nat} {g0 : Nat → Nat} {h0 : pm_H} (hC : C ≤ 8) (hn8 : node ≤ 8) (ihu : ∀ u', u = u' + 1 → ∀ (h : pm_H) (nd m : Nat) (g : Nat → Nat) (L : List Nat), GS h C m g L → C ≤ u' + pcn m C → (nd = 0 ∨ nd ∈ L) → nd ≤ 8 → Sp (u' + 2) 256 h [.ref 77, .int (nJ nd)] (GQ h C m g)) (k : Nat) : ∀ {h : pm_H} {m : Nat} {g : Nat → Nat} {L : List Nat} (lv : List (Nat × Value)), k ≤ C → GS h C m g L → (node = 0 ∨ node ∈ L) → (∀ c, c < C → isB m0 c = true → isB m c = true) → fr_g GM h0 h → C ≤ u + pcn m C → (∀ c, c < C → isB m c = false → g c + pcn m C + (if k ≤ c then 1 else 0) = g0 c + pcn m0 C) → pm_get lv 0 = some (.ref 77) → pm_get lv 1 = some (.int (nJ node)) → pm_get lv 2 = some (.int (pI k)) → Ends (pm_at tX9_goesOn) (pm_Rt pm_P (u + 1)) (7, lv, [], h, 0, 0) (GQ h0 C m0 g0) := by
  induction k with
  | zero =>
    intro h m g L lv hkC G hnode hsub hfr hu hg L0 L1 L2
    refine E_il rfl L2 ?_
    refine E_ifT rfl (by decide) ?_
    exact E_ret rfl ⟨rfl, hfr, m, g, L, G, hsub, fun c hc hz => by have := hg c hc hz; rw [if_pos (Nat.zero_le _)] at this; omega⟩
  | succ k ih =>
    intro h m g L lv hkC G hnode hsub hfr hu hg L0 L1 L2
    have L2 : pm_get lv 2 = some (.int (nJ k)) := L2
    have hm := G.2.2.2.1
    refine E_il rfl L2 ?_
    refine E_ifF rfl (decide_eq_false (nJ_lt0 (by omega))) ?_
    refine E_al rfl L0 ?_
    refine E_gf rfl G.1 rfl (show gi h 77 35 = nJ m from G.2.2.1) ?_
    refine E_il rfl L2 ?_
    refine E_call rfl (sp_isBit (by omega) (by omega)) (chkS rfl (by show 0 ≤ 8; decide)) (fun h1 r1 => ?_)
    rintro ⟨e1, f1⟩
    rw [e1, f1]
    show Ends _ _ (19, lv, [.int (nJ (bif isB m k then 1 else 0))], h, 0, 0) _
    by_cases hb2 : isB m k = false
    · refine E_ifT rfl (by rw [hb2]; rfl) ?_
      refine E_al rfl L0 ?_
      refine E_gr rfl G.1 (q := 97) rfl ?_
      refine E_il rfl L2 ?_
      refine E_ial rfl G.1 rfl (by omega) (by decide) (show gi h 97 k = (gi h 97 k) from rfl) ?_
      by_cases hb3 : g k = 0
      · refine E_ifT rfl (decide_eq_true ((GS_g0 G (by omega)).mpr hb3)) ?_
        have hbk := hb2
        obtain ⟨m2, hm2⟩ : ∃ m2, m2 = m + 2 ^ k := ⟨_, rfl⟩
        have hm2l : m2 < 512 := by rw [hm2]; exact isB_add_lt hm (by omega) hbk
        have hpl := pcn_lt hbk (n := C) (by omega)
        have hpa : pcn m2 C = pcn m C + 1 := by rw [hm2, pcn_add hm (by omega) hbk (by omega), if_pos (by omega)]
        have hup : ∀ c, c < C → isB m c = true → isB m2 c = true := fun c hc h4 => by rw [hm2, isB_add hm (by omega) (by omega) hbk, h4, Bool.or_true]
        refine E_al rfl L0 ?_
        refine E_dup rfl rfl ?_
        refine E_gf rfl G.1 rfl (show gi h 77 35 = nJ m from G.2.2.1) ?_
        refine E_ci 1 rfl (by decide) ?_
        refine E_il rfl L2 ?_
        refine E_bin rfl rfl ?_
        refine E_bin rfl (show nJ m ||| nJ 1 <<< (nJ k &&& 31) = nJ m2 from (by rw [hm2]; exact or_new hm (by omega) hbk)) ?_
        refine E_pf rfl G.1 rfl ?_
        have hh4 : HH (pt h 77 35 (nJ m2)) := HH_ptn G.1 rfl (by omega) (by omega) (by omega)
        refine E_al rfl L0 ?_
        refine E_gr rfl hh4 (q := 92) rfl ?_
        refine E_il rfl L2 ?_
        refine E_ci 1 rfl (by decide) ?_
        refine E_bin rfl (nJ_add _ _) ?_
        refine E_il rfl L1 ?_
        refine E_ias rfl hh4 rfl (by omega) (by decide) ?_
        have hh5 : HH (pt (pt h 77 35 (nJ m2)) 92 ((k + 1)) (nJ node)) := HH_ptn hh4 (bd_u rfl (by omega)) (by omega) (by omega) (by omega)
        refine E_al rfl L0 ?_
        refine E_gr rfl hh5 (q := 98) rfl ?_
        refine E_al rfl L0 ?_
        refine E_gf rfl hh5 rfl (show gi (pt (pt h 77 35 (nJ m2)) 92 ((k + 1)) (nJ node)) 77 36 = nJ ((pcn m C + 1)) from (by rw [gi_ne (by omega), gi_ne (by omega), gi_gn G.1 rfl (by decide), G.2.2.2.2.1])) ?_
        refine E_il rfl L2 ?_
        refine E_ci 1 rfl (by decide) ?_
        refine E_bin rfl (nJ_add _ _) ?_
        refine E_ias rfl hh5 rfl (by omega) (by decide) ?_
        have hh6 : HH (pt (pt (pt h 77 35 (nJ m2)) 92 ((k + 1)) (nJ node)) 98 ((pcn m C + 1)) (nJ ((k + 1)))) := HH_ptn hh5 (bd_u rfl (by omega)) (by omega) (by omega) (by omega)
        refine E_al rfl L0 ?_
        refine E_dup rfl rfl ?_
        refine E_gf rfl hh6 rfl (show gi (pt (pt (pt h 77 35 (nJ m2)) 92 ((k + 1)) (nJ node)) 98 ((pcn m C + 1)) (nJ ((k + 1)))) 77 36 = nJ ((pcn m C + 1)) from (by rw [gi_ne (by omega), gi_ne (by omega), gi_ne (by omega), gi_gn G.1 rfl (by decide), G.2.2.2.2.1])) ?_
        refine E_ci 1 rfl (by decide) ?_
        refine E_bin rfl (nJ_add _ _) ?_
        refine E_pf rfl hh6 rfl ?_
        have hh7 : HH (pt (pt (pt (pt h 77 35 (nJ m2)) 92 ((k + 1)) (nJ node)) 98 ((pcn m C + 1)) (nJ ((k + 1)))) 77 36 (nJ (((pcn m C + 1) + 1)))) := HH_ptn hh6 rfl (by omega) (by omega) (by omega)
        refine E_al rfl L0 ?_
        refine E_il rfl L2 ?_
        refine E_ci 1 rfl (by decide) ?_
        refine E_bin rfl (nJ_add _ _) ?_
        have G2 := GS_add G hC (by omega) hbk hm2 hnode hn8
        obtain ⟨u', hu'⟩ : ∃ u', u = u' + 1 := ⟨u - 1, by omega⟩
        refine E_call rfl (Sp_le (by omega) (ihu u' hu' _ _ _ _ _ G2 (by omega) (.inr List.mem_cons_self) (by omega))) (chk77 hh7 rfl rfl (by show 0 ≤ 8; decide)) (fun h9 r9 => ?_)
        rintro ⟨e9, fr9, m9, g9, L9, G9, sub9, gr9⟩
        rw [e9]
        show Ends _ _ (97, lv, [], h9, 0, 0) _
        refine E_inc rfl L2 (pI_dec _) (fun lv8 L8_2 kp8 => ?_)
        have L8_0 := kp8 0 _ (by decide) rfl L0
        have L8_1 := kp8 1 _ (by decide) rfl L1
        refine E_goto rfl ?_
        refine ih lv8 (by omega) G9 ?_ ?_ ?_ ?_ (fun c hc hz => ?_) L8_0 L8_1 L8_2
        · cases hnode with
          | inl e => exact .inl e
          | inr e =>
            obtain ⟨c, c1, c2, c3⟩ := (G.2.2.2.2.2.2.1 _).mp e
            exact .inr ((G9.2.2.2.2.2.2.1 _).mpr ⟨c, c1, c2, sub9 c c1 (hup c c1 c3)⟩)
        · exact fun c c1 c3 => sub9 c c1 (hup c c1 (hsub c c1 c3))
        · exact fr_trans (fr_ptr (l := 35) (u := 36) rfl (by omega) (by omega) (fr_ptr (l := 0) (u := 8) rfl (by omega) (by omega) (fr_ptr (l := 0) (u := 8) rfl (by omega) (by omega) (fr_ptr (l := 35) (u := 36) rfl (by omega) (by omega) hfr)))) fr9
        · have := pcn_mono (n := C) sub9
          omega
        · have h1 := gr9 c hc hz
          have h3 : isB m c = false := by
            cases h4 : isB m c with
            | false => rfl
            | true => rw [sub9 c hc (hup c hc h4)] at hz; cases hz
          have h5 : c ≠ k := fun e => by subst e; rw [sub9 c hc (by rw [hm2, isB_add hm (by omega) (by omega) hbk, beq_self_eq_true]; rfl)] at hz; cases hz
          have h2 := hg c hc h3
          split at h2 <;> split <;> omega
      · refine E_ifF rfl (decide_eq_false (fun q => hb3 ((GS_g0 G (by omega)).mp q))) ?_
        have hg0 := hb3
        have hgk8 := (G.2.2.2.2.2.2.2 k (by omega)).2
        refine E_al rfl L0 ?_
        refine E_gr rfl G.1 (q := 97) rfl ?_
        refine E_il rfl L2 ?_
        refine E_dup2 rfl rfl rfl ?_
        refine E_ial rfl G.1 rfl (by omega) (by decide) (show gi h 97 k = nJ ((g k)) from (GS_gk G (by omega) hg0)) ?_
        refine E_ci 1 rfl (by decide) ?_
        refine E_bin rfl (nJ_sub (by omega)) ?_
        refine E_ias rfl G.1 rfl (by omega) (by decide) ?_
        have hh9 : HH (pt h 97 k (nJ (((g k) - 1)))) := HH_ptn G.1 (bd_u rfl (by omega)) (by omega) (by omega) (by omega)
        refine E_goto rfl ?_
        refine E_inc rfl L2 (pI_dec _) (fun lv10 L10_2 kp10 => ?_)
        have L10_0 := kp10 0 _ (by decide) rfl L0
        have L10_1 := kp10 1 _ (by decide) rfl L1
        refine E_goto rfl ?_
        refine ih lv10 (by omega) (GS_dec G hC (by omega) hg0) hnode hsub (fr_ptr (l := 0) (u := 7) rfl (by omega) (by omega) hfr) hu (fun c hc hz => ?_) L10_0 L10_1 L10_2
        have h1 := hg c hc hz
        by_cases h2 : c = k
        · subst h2; rw [if_pos rfl]; split at h1 <;> split <;> omega
        · rw [if_neg h2]; split at h1 <;> split <;> omega
    · refine E_ifF rfl (by rw [Bool.not_eq_false] at hb2; rw [hb2]; rfl) ?_
      refine E_goto rfl ?_
      refine E_inc rfl L2 (pI_dec _) (fun lv11 L11_2 kp11 => ?_)
      have L11_0 := kp11 0 _ (by decide) rfl L0
      have L11_1 := kp11 1 _ (by decide) rfl L1
      refine E_goto rfl ?_
      refine ih lv11 (by omega) G hnode hsub hfr hu (fun c hc hz => ?_) L11_0 L11_1 L11_2
      have h1 := hg c hc hz
      have h2 : c ≠ k := fun e => by subst e; exact absurd hz hb2
      split at h1 <;> split <;> omega
theorem go_one {u C : Nat} (hC : C ≤ 8) (ihu : ∀ u', u = u' + 1 → ∀ (h : pm_H) (nd m : Nat) (g : Nat → Nat) (L : List Nat), GS h C m g L → C ≤ u' + pcn m C → (nd = 0 ∨ nd ∈ L) → nd ≤ 8 → Sp (u' + 2) 256 h [.ref 77, .int (nJ nd)] (GQ h C m g)) (h : pm_H) (node m : Nat) (g : Nat → Nat) (L : List Nat) (G : GS h C m g L) (hu : C ≤ u + pcn m C) (hnode : node = 0 ∨ node ∈ L) (hn8 : node ≤ 8) : Sp (u + 2) 256 h [.ref 77, .int (nJ node)] (GQ h C m g) := by
  have hCe := G.2.1
  refine Sp_of aiX9_goesOn rfl rfl rfl ?_
  refine E_al rfl (show pm_get (lv_args 0 [.ref 77, .int (nJ node)]) 0 = _ from rfl) ?_
  refine E_call rfl (sp_cars G.1) (chk77 G.1 rfl rfl (by show 0 ≤ 8; decide)) (fun h1 r1 => ?_)
  rintro ⟨e1, f1, c1⟩
  rw [e1, f1]
  show Ends _ _ (4, (lv_args 0 [.ref 77, .int (nJ node)]), [.int (nJ (gn h 84 3))], h, 0, 0) _
  refine E_ci 1 rfl (by decide) ?_
  refine E_bin rfl (pI_of _) ?_
  refine E_is rfl (fun lv2 L2_2 kp2 => ?_)
  have L2_0 := kp2 0 _ (by decide) rfl (show pm_get (lv_args 0 [.ref 77, .int (nJ node)]) 0 = _ from rfl)
  have L2_1 := kp2 1 _ (by decide) rfl (show pm_get (lv_args 0 [.ref 77, .int (nJ node)]) 1 = _ from rfl)
  exact go_loop hC hn8 ihu (gn h 84 3) lv2 (by omega) G hnode (fun _ _ a => a) (fr_rf _ _) hu (fun c hc _ => by rw [if_neg (by omega)]; omega) L2_0 L2_1 L2_2
theorem sp_goesOn {C : Nat} (hC : C ≤ 8) : ∀ (u : Nat) (h : pm_H) (node m : Nat) (g : Nat → Nat) (L : List Nat), GS h C m g L → C ≤ u + pcn m C → (node = 0 ∨ node ∈ L) → node ≤ 8 → Sp (u + 2) 256 h [.ref 77, .int (nJ node)] (GQ h C m g)
  | 0 => go_one hC (fun u' hu' => by omega)
  | u + 1 => go_one hC (fun u' hu' => by
      have : u' = u := by omega
      subst this
      exact sp_goesOn hC u')
theorem hg_gn (h : pm_H) : hg h = gn h 92 := by
  funext q
  unfold hg gn gi
  split <;> rename_i e
  · rw [e]
  · split
    · rename_i x e2; exact absurd e2 (e x)
    · rfl
theorem GS_dep {h : pm_H} {C m : Nat} {g : Nat → Nat} {L : List Nat} (G : GS h C m g L) (hC : C ≤ 8) (hf : ∀ c, c < C → isB m c = true) : ∀ v, 1 ≤ v → v ≤ C → dep (hg h) 8 v := by
  intro v h1 h2
  rw [hg_gn]
  have hp := pcn_le m C
  refine dep_le (TL_dep G.2.2.2.2.2.1.1 v ((G.2.2.2.2.2.2.1 v).mpr ⟨v - 1, by omega, by omega, hf _ (by omega)⟩)) (by rw [G.2.2.2.2.2.1.2]; omega)
/-- lawful: all come -/
theorem GQ_all {h0 h1 h' : pm_H} {C : Nat} {r : Option Value} (hL : LWf h0) (hC : gn h0 84 3 = C) (hQ : GQ h1 C 0 (fun c => gn h0 89 c - 1) h' r) (hC8 : C ≤ 8) : ∀ v, 1 ≤ v → v ≤ C → dep (hg h') 8 v := by
  obtain ⟨-, -, m, g, L, G, -, hg⟩ := hQ
  refine GS_dep G hC8 (pcn_full ?_)
  by_cases hlt : pcn m C < C
  · exfalso
    have hP : gn h0 84 0 = C := by rw [← hL.1]; exact hC
    have h1 := hL.2 (pcn m C + 1) (by omega) (by omega)
    rw [hP] at h1
    have h2 : cw (gn h0 89) (pcn m C + 1) C ≤ pcn m C := cw_pcn (fun c hc hle => by
      cases hz : isB m c with
      | true => rfl
      | false =>
        have this : g c + 1 + pcn m C = gn h0 89 c - 1 + pcn 0 C := hg c hc hz
        rw [pcn_zero] at this
        omega)
    omega
  · omega
theorem se_loop {h0 : pm_H} {d : Nat} (hh0 : HH h0) (hL : LWf h0) (j : Nat) : ∀ {h : pm_H} {c : Nat} (lv : List (Nat × Value)), c + j = gn h0 84 3 → HH h → fr_g GM h0 h → (∀ c', c' < c → gi h 97 c' = pI (gn h0 89 c')) → pm_get lv 0 = some (.ref 77) → pm_get lv 1 = some (.int (nJ c)) → Ends (pm_at tX9_searches) (pm_Rt pm_P (d + 10)) (2, lv, [], h, 0, 0) (fun h' r => r = none ∧ HH h' ∧ fr_g GM h0 h' ∧ ∀ v, 1 ≤ v → v ≤ gn h0 84 3 → dep (hg h') 8 v) := by
  have hC : gn h0 84 3 ≤ 8 := gn_hi hh0 rfl (by decide)
  induction j with
  | zero =>
    intro h c lv hj hh hfr hg L0 L1
    have hce : gn h 84 3 = gn h0 84 3 := fr_gn hfr (rg_no rfl _)
    refine E_il rfl L1 ?_
    refine E_al rfl L0 ?_
    refine E_call rfl (sp_cars hh) (chk77 hh rfl rfl (by show 1 ≤ 8; decide)) (fun h1 r1 => ?_)
    rintro ⟨e1, f1, c1⟩
    rw [e1, f1]
    show Ends _ _ (7, lv, [.int (nJ (gn h 84 3)), .int (nJ c)], h, 0, 0) _
    refine E_icT rfl (decide_eq_true ((nJ_le (by omega) (by omega)).mpr (by omega))) ?_
    refine E_al rfl L0 ?_
    refine E_ci 0 rfl (by decide) ?_
    refine E_pf rfl hh rfl ?_
    have hh2 : HH (pt h 77 35 (nJ 0)) := HH_ptn hh rfl (by omega) (by omega) (by omega)
    refine E_al rfl L0 ?_
    refine E_ci 1 rfl (by decide) ?_
    refine E_pf rfl hh2 rfl ?_
    have hh3 : HH (pt (pt h 77 35 (nJ 0)) 77 36 (nJ 1)) := HH_ptn hh2 rfl (by omega) (by omega) (by omega)
    refine E_al rfl L0 ?_
    refine E_gr rfl hh3 (q := 98) rfl ?_
    refine E_ci 0 rfl (by decide) ?_
    refine E_ci 0 rfl (by decide) ?_
    refine E_ias rfl hh3 rfl (by omega) (by decide) ?_
    have hh4 : HH (pt (pt (pt h 77 35 (nJ 0)) 77 36 (nJ 1)) 98 0 (nJ 0)) := HH_ptn hh3 (bd_u rfl (by omega)) (by omega) (by omega) (by omega)
    refine E_al rfl L0 ?_
    refine E_ci 0 rfl (by decide) ?_
    have G : GS (pt (pt (pt h 77 35 (nJ 0)) 77 36 (nJ 1)) 98 0 (nJ 0)) (gn h0 84 3) 0 (fun c => gn h0 89 c - 1) [] := by
      refine ⟨hh4, ?_, ?_, by omega, ?_, ⟨trivial, by rw [pcn_zero]; rfl⟩, fun v => ⟨fun hv => absurd hv List.not_mem_nil, fun ⟨c, _, _, c3⟩ => ?_⟩, fun c hc => ?_⟩
      · rw [gn_ne (by omega), gn_ne (by omega), gn_ne (by omega)]; exact hce
      · rw [gi_ne (by omega), gi_ne (by omega)]; exact gi_pt hh rfl (ai_lo _) (ai_hi _)
      · rw [gn_ne (by omega), gn_ptn hh2 rfl (by omega) (by omega) (by omega), pcn_zero]
      · rw [isB_zero] at c3; cases c3
      · rw [gi_ne (by omega), gi_ne (by omega), gi_ne (by omega), hg c (by omega)]
        have hb8 : gn h0 89 c ≤ 8 := gn_hi hh0 (bd_u rfl (by omega)) (by decide)
        show (pI (gn h0 89 c) = nJ (gn h0 89 c - 1) ∨ pI (gn h0 89 c) = -1 ∧ gn h0 89 c - 1 = 0) ∧ gn h0 89 c - 1 ≤ 8
        generalize gn h0 89 c = x at hb8 ⊢
        cases x with
        | zero => exact ⟨.inr ⟨rfl, rfl⟩, by omega⟩
        | succ k => exact ⟨.inl rfl, by omega⟩
    refine E_call rfl (Sp_le (by omega) (sp_goesOn (by omega) 8 _ 0 0 _ [] G (by omega) (.inl rfl) (by omega))) (chk77 hh4 rfl rfl (by show 0 ≤ 8; decide)) (fun h9 r9 => ?_)
    intro hQ
    obtain ⟨m9, g9, L9, G9, -, -⟩ := hQ.2.2
    rw [hQ.1]
    show Ends _ _ (52, lv, [], h9, 0, 0) _
    exact E_ret rfl ⟨rfl, G9.1, fr_trans (fr_ptr (l := 0) (u := 8) rfl (by omega) (by omega) (fr_ptr (l := 35) (u := 36) rfl (by omega) (by omega) (fr_ptr (l := 35) (u := 36) rfl (by omega) (by omega) hfr))) hQ.2.1, GQ_all hL rfl hQ hC⟩
  | succ j ih =>
    intro h c lv hj hh hfr hg L0 L1
    have hce : gn h 84 3 = gn h0 84 3 := fr_gn hfr (rg_no rfl _)
    refine E_il rfl L1 ?_
    refine E_al rfl L0 ?_
    refine E_call rfl (sp_cars hh) (chk77 hh rfl rfl (by show 1 ≤ 8; decide)) (fun h1 r1 => ?_)
    rintro ⟨e1, f1, c1⟩
    rw [e1, f1]
    show Ends _ _ (7, lv, [.int (nJ (gn h 84 3)), .int (nJ c)], h, 0, 0) _
    refine E_icF rfl (decide_eq_false (fun q => absurd ((nJ_le (by omega) (by omega)).mp q) (by omega))) ?_
    refine E_al rfl L0 ?_
    refine E_gr rfl hh (q := 97) rfl ?_
    refine E_il rfl L1 ?_
    refine E_al rfl L0 ?_
    refine E_gr rfl hh (q := 89) rfl ?_
    refine E_il rfl L1 ?_
    refine E_ial rfl hh rfl (by omega) (by decide) (show gi h 89 c = nJ ((gn h0 89 c)) from (by rw [fr_gi hfr (rg_no rfl _)]; exact gi_gn hh0 (bd_u rfl (by omega)) (by decide))) ?_
    refine E_ci 1 rfl (by decide) ?_
    refine E_bin rfl (pI_of _) ?_
    refine E_ias rfl hh rfl (by omega) (by decide) ?_
    have hh2 : HH (pt h 97 c (pI (gn h0 89 c))) := HH_pt hh (bd_u rfl (by omega)) (ai_lo _) (ai_hi _)
    refine E_inc rfl L1 (nJ_inc _) (fun lv3 L3_1 kp3 => ?_)
    have L3_0 := kp3 0 _ (by decide) rfl L0
    refine E_goto rfl ?_
    refine ih (c := c + 1) lv3 (by omega) hh2 (fr_ptr (l := 0) (u := 7) rfl (by omega) (by omega) hfr) (fun c' hc' => ?_) L3_0 L3_1
    by_cases hcc : c' = c
    · subst hcc
      rw [gi_pt hh (bd_u rfl (by omega)) (ai_lo _) (ai_hi _)]
    · rw [gi_ne (fun _ => hcc)]; exact hg c' (by omega)
theorem sp_searches {h0 : pm_H} {d : Nat} (hh : HH h0) (hL : LWf h0) : Sp (d + 11) 342 h0 [.ref 77] (fun h' r => r = none ∧ HH h' ∧ fr_g GM h0 h' ∧ ∀ v, 1 ≤ v → v ≤ gn h0 84 3 → dep (hg h') 8 v) := by
  refine Sp_of aiX9_searches rfl rfl rfl ?_
  refine E_ci 0 rfl (by decide) ?_
  refine E_is rfl (fun lv1 L1_1 kp1 => ?_)
  have L1_0 := kp1 0 _ (by decide) rfl (show pm_get (lv_args 0 [.ref 77]) 0 = _ from rfl)
  exact se_loop hh hL (gn h0 84 3) (c := 0) lv1 (by omega) hh (fr_rf _ _) (fun c' hc' => absurd hc' (Nat.not_lt_zero _)) L1_0 L1_1
noncomputable def CM : List Rng := [(77, 35, 35), (97, 0, 7)]
noncomputable def CQ (h0 : pm_H) (P m0 : Nat) (h' : pm_H) (r : Option Value) : Prop := r = none ∧ HH h' ∧ fr_g CM h0 h' ∧ ∃ m, gi h' 77 35 = nJ m ∧ m < 512 ∧ ∀ c, c < P → isB m0 c = true → isB m c = true
theorem ct_loop {u P node m0 : Nat} {h0 : pm_H} (hP : P ≤ 8) (hn8 : node ≤ 8) (ihu : ∀ u', u = u' + 1 → ∀ (h : pm_H) (nd m : Nat), HH h → gn h 84 0 = P → gi h 77 35 = nJ m → m < 512 → P ≤ u' + pcn m P → nd ≤ 8 → Sp (u' + 2) 234 h [.ref 77, .int (nJ nd)] (CQ h P m)) (k : Nat) : ∀ {h : pm_H} {m : Nat} (lv : List (Nat × Value)), k ≤ P → HH h → gn h 84 0 = P → gi h 77 35 = nJ m → m < 512 → (∀ c, c < P → isB m0 c = true → isB m c = true) → fr_g CM h0 h → P ≤ u + pcn m P → pm_get lv 0 = some (.ref 77) → pm_get lv 1 = some (.int (nJ node)) → pm_get lv 2 = some (.int (pI k)) → Ends (pm_at tX9_counts0) (pm_Rt pm_P (u + 1)) (7, lv, [], h, 0, 0) (CQ h0 P m0) := by
  induction k with
  | zero =>
    intro h m lv hkC hh hP0 hm0 hm hsub hfr hu L0 L1 L2
    refine E_il rfl L2 ?_
    refine E_ifT rfl (by decide) ?_
    exact E_ret rfl ⟨rfl, hh, hfr, m, hm0, hm, hsub⟩
  | succ k ih =>
    intro h m lv hkC hh hP0 hm0 hm hsub hfr hu L0 L1 L2
    have L2 : pm_get lv 2 = some (.int (nJ k)) := L2
    refine E_il rfl L2 ?_
    refine E_ifF rfl (decide_eq_false (nJ_lt0 (by omega))) ?_
    refine E_al rfl L0 ?_
    refine E_gf rfl hh rfl (show gi h 77 35 = nJ m from hm0) ?_
    refine E_il rfl L2 ?_
    refine E_call rfl (sp_isBit (by omega) (by omega)) (chkS rfl (by show 0 ≤ 8; decide)) (fun h1 r1 => ?_)
    rintro ⟨e1, f1⟩
    rw [e1, f1]
    show Ends _ _ (19, lv, [.int (nJ (bif isB m k then 1 else 0))], h, 0, 0) _
    by_cases hb2 : isB m k = false
    · refine E_ifT rfl (by rw [hb2]; rfl) ?_
      refine E_al rfl L0 ?_
      refine E_gr rfl hh (q := 92) rfl ?_
      refine E_il rfl L2 ?_
      refine E_ci 1 rfl (by decide) ?_
      refine E_bin rfl (nJ_add _ _) ?_
      have b3 : gn h 92 ((k + 1)) ≤ 8 := gn_hi hh (bd_u rfl (by omega)) (by decide)
      refine E_ial rfl hh rfl (by omega) (by decide) (gi_gn hh (bd_u rfl (by omega)) (by decide)) ?_
      refine E_il rfl L1 ?_
      by_cases hb4 : (gn h 92 ((k + 1))) = node
      · refine E_icT rfl (decide_eq_true ((nJ_eq (by omega) (by omega)).mpr hb4)) ?_
        obtain ⟨m2, hm2⟩ : ∃ m2, m2 = m + 2 ^ k := ⟨_, rfl⟩
        have hm2l : m2 < 512 := by rw [hm2]; exact isB_add_lt hm (by omega) hb2
        have hpl := pcn_lt hb2 (n := P) (by omega)
        have hpa : pcn m2 P = pcn m P + 1 := by rw [hm2, pcn_add hm (by omega) hb2 (by omega), if_pos (by omega)]
        have hup : ∀ c, c < P → isB m c = true → isB m2 c = true := fun c hc h4 => by rw [hm2, isB_add hm (by omega) (by omega) hb2, h4, Bool.or_true]
        refine E_al rfl L0 ?_
        refine E_dup rfl rfl ?_
        refine E_gf rfl hh rfl (show gi h 77 35 = nJ m from hm0) ?_
        refine E_ci 1 rfl (by decide) ?_
        refine E_il rfl L2 ?_
        refine E_bin rfl rfl ?_
        refine E_bin rfl (show nJ m ||| nJ 1 <<< (nJ k &&& 31) = nJ m2 from (by rw [hm2]; exact or_new hm (by omega) hb2)) ?_
        refine E_pf rfl hh rfl ?_
        have hh5 : HH (pt h 77 35 (nJ m2)) := HH_ptn hh rfl (by omega) (by omega) (by omega)
        refine E_al rfl L0 ?_
        refine E_il rfl L2 ?_
        refine E_ci 1 rfl (by decide) ?_
        refine E_bin rfl (nJ_add _ _) ?_
        obtain ⟨u', hu'⟩ : ∃ u', u = u' + 1 := ⟨u - 1, by omega⟩
        refine E_call rfl (Sp_le (by omega) (ihu u' hu' _ _ m2 hh5 (by rw [gn_ne (by omega)]; exact hP0) (gi_pt hh rfl (ai_lo _) (ai_hi _)) hm2l (by omega) (by omega))) (chk77 hh5 rfl rfl (by show 0 ≤ 8; decide)) (fun h9 r9 => ?_)
        rintro ⟨e9, hh9, fr9, m9, hm9, hl9, sub9⟩
        rw [e9]
        show Ends _ _ (69, lv, [], h9, 0, 0) _
        refine E_inc rfl L2 (pI_dec _) (fun lv6 L6_2 kp6 => ?_)
        have L6_0 := kp6 0 _ (by decide) rfl L0
        have L6_1 := kp6 1 _ (by decide) rfl L1
        refine E_goto rfl ?_
        refine ih lv6 (by omega) hh9 (by rw [fr_gn fr9 (rg_no rfl _), gn_ne (by omega)]; exact hP0) hm9 hl9 (fun c hc a => sub9 c hc (hup c hc (hsub c hc a))) (fr_trans (fr_ptr (l := 35) (u := 35) rfl (by omega) (by omega) hfr) fr9) ?_ L6_0 L6_1 L6_2
        have := pcn_mono (n := P) sub9
        omega
      · refine E_icF rfl (decide_eq_false (fun q => hb4 ((nJ_eq (by omega) (by omega)).mp q))) ?_
        refine E_al rfl L0 ?_
        refine E_gr rfl hh (q := 97) rfl ?_
        refine E_il rfl L2 ?_
        refine E_dup2 rfl rfl rfl ?_
        refine E_ial rfl hh rfl (by omega) (by decide) (show gi h 97 k = (gi h 97 k) from rfl) ?_
        refine E_ci 1 rfl (by decide) ?_
        refine E_bin rfl rfl ?_
        refine E_ias rfl hh rfl (by omega) (by decide) ?_
        have hh7 : HH (pt h 97 k (gi h 97 k + nJ 1)) := HH_pt hh (bd_u rfl (by omega)) (ai_lo _) (ai_hi _)
        refine E_goto rfl ?_
        refine E_inc rfl L2 (pI_dec _) (fun lv8 L8_2 kp8 => ?_)
        have L8_0 := kp8 0 _ (by decide) rfl L0
        have L8_1 := kp8 1 _ (by decide) rfl L1
        refine E_goto rfl ?_
        exact ih lv8 (by omega) hh7 (by rw [gn_ne (by omega)]; exact hP0) (by rw [gi_ne (by omega)]; exact hm0) hm hsub (fr_ptr (l := 0) (u := 7) rfl (by omega) (by omega) hfr) hu L8_0 L8_1 L8_2
    · refine E_ifF rfl (by rw [Bool.not_eq_false] at hb2; rw [hb2]; rfl) ?_
      refine E_goto rfl ?_
      refine E_inc rfl L2 (pI_dec _) (fun lv9 L9_2 kp9 => ?_)
      have L9_0 := kp9 0 _ (by decide) rfl L0
      have L9_1 := kp9 1 _ (by decide) rfl L1
      refine E_goto rfl ?_
      exact ih lv9 (by omega) hh hP0 hm0 hm hsub hfr hu L9_0 L9_1 L9_2
theorem ct_one {u P : Nat} (hP : P ≤ 8) (ihu : ∀ u', u = u' + 1 → ∀ (h : pm_H) (nd m : Nat), HH h → gn h 84 0 = P → gi h 77 35 = nJ m → m < 512 → P ≤ u' + pcn m P → nd ≤ 8 → Sp (u' + 2) 234 h [.ref 77, .int (nJ nd)] (CQ h P m)) (h : pm_H) (node m : Nat) (hh : HH h) (hP0 : gn h 84 0 = P) (hm0 : gi h 77 35 = nJ m) (hm : m < 512) (hu : P ≤ u + pcn m P) (hn8 : node ≤ 8) : Sp (u + 2) 234 h [.ref 77, .int (nJ node)] (CQ h P m) := by
  refine Sp_of aiX9_counts0 rfl rfl rfl ?_
  refine E_al rfl (show pm_get (lv_args 0 [.ref 77, .int (nJ node)]) 0 = _ from rfl) ?_
  refine E_call rfl (sp_places hh) (chk77 hh rfl rfl (by show 0 ≤ 8; decide)) (fun h1 r1 => ?_)
  rintro ⟨e1, f1, c1⟩
  rw [e1, f1]
  show Ends _ _ (4, (lv_args 0 [.ref 77, .int (nJ node)]), [.int (nJ (gn h 84 0))], h, 0, 0) _
  refine E_ci 1 rfl (by decide) ?_
  refine E_bin rfl (pI_of _) ?_
  refine E_is rfl (fun lv2 L2_2 kp2 => ?_)
  have L2_0 := kp2 0 _ (by decide) rfl (show pm_get (lv_args 0 [.ref 77, .int (nJ node)]) 0 = _ from rfl)
  have L2_1 := kp2 1 _ (by decide) rfl (show pm_get (lv_args 0 [.ref 77, .int (nJ node)]) 1 = _ from rfl)
  exact ct_loop hP hn8 ihu (gn h 84 0) lv2 (by omega) hh hP0 hm0 hm (fun _ _ a => a) (fr_rf _ _) hu L2_0 L2_1 L2_2
theorem sp_counts0 {P : Nat} (hP : P ≤ 8) : ∀ (u : Nat) (h : pm_H) (node m : Nat), HH h → gn h 84 0 = P → gi h 77 35 = nJ m → m < 512 → P ≤ u + pcn m P → node ≤ 8 → Sp (u + 2) 234 h [.ref 77, .int (nJ node)] (CQ h P m)
  | 0 => ct_one hP (fun u' hu' => by omega)
  | u + 1 => ct_one hP (fun u' hu' => by
      have : u' = u := by omega
      subst this
      exact sp_counts0 hP u')
end
section
/-! by hand: the tree by wishes (written by gen_t4.py) -/
/-- a row's elements from the k-th down to the first -/
noncomputable def rl (g : Nat → Nat) : Nat → List Nat
  | 0 => []
  | k + 1 => g (k + 1) :: rl g k
theorem rl_eq {g g' : Nat → Nat} : ∀ {k : Nat}, (∀ i, 1 ≤ i → i ≤ k → g' i = g i) → rl g' k = rl g k
  | 0, _ => rfl
  | k + 1, h => by
    unfold rl
    rw [h (k + 1) (by omega) (by omega), rl_eq (k := k) (fun i h1 h2 => h i h1 (by omega))]
theorem rl_mem {g : Nat → Nat} {i : Nat} : ∀ {k : Nat}, 1 ≤ i → i ≤ k → g i ∈ rl g k
  | 0, h1, h2 => by omega
  | k + 1, h1, h2 => by
    unfold rl
    by_cases h : i = k + 1
    · subst h; exact List.mem_cons_self
    · exact List.mem_cons_of_mem _ (rl_mem (k := k) h1 (by omega))
theorem TL_par {f : Nat → Nat} : ∀ {L : List Nat}, TL f L → ∀ v, v ∈ L → f v = 0 ∨ f v ∈ L
  | [], _, v, hv => absurd hv List.not_mem_nil
  | u :: L, h, v, hv => by
    cases List.mem_cons.mp hv with
    | inl e =>
      subst e
      cases h.2.2.1 with
      | inl q => exact .inl q
      | inr q => exact .inr (List.mem_cons_of_mem _ q)
    | inr hv =>
      cases TL_par h.2.2.2 v hv with
      | inl q => exact .inl q
      | inr q => exact .inr (List.mem_cons_of_mem _ q)
theorem rl_len {g : Nat → Nat} : ∀ k, (rl g k).length = k
  | 0 => rfl
  | k + 1 => congrArg (· + 1) (rl_len k)
noncomputable def LM : List Rng := [(92, 0, 8), (93, 0, 8)]
/-- the row of places q + 1, cars below c are hung -/
noncomputable def LT (h0 h : pm_H) (q c n : Nat) : Prop := HH h ∧ fr_g LM h0 h ∧ gn h 93 0 = 0 ∧ n = 1 + cw (gn h0 89) q (gn h0 84 3) + ce (gn h0 89) (q + 1) c ∧ TL (gn h 92) (rl (gn h 93) (n - 1)) ∧ ∀ v, v ∈ rl (gn h 93) (n - 1) ↔ ∃ c', c' < gn h0 84 3 ∧ v = c' + 1 ∧ (gn h0 89 c' < q + 1 ∨ gn h0 89 c' = q + 1 ∧ c' < c)
theorem LT_n {h0 h : pm_H} {q c n : Nat} (T : LT h0 h q c n) (hc : c < gn h0 84 3) (he : gn h0 89 c = q + 1) : n ≤ gn h0 84 3 := by
  have h1 := cw_le (gn h0 89) (q + 1) (gn h0 84 3)
  have h2 := cw_succ (gn h0 89) q (gn h0 84 3)
  have h3 := ce_lt (gn h0 89) (q + 1) hc he
  have h4 := T.2.2.2.1
  omega
theorem LT_next {h0 h : pm_H} {q n : Nat} (T : LT h0 h q (gn h0 84 3) n) : LT h0 h (q + 1) 0 n := by
  obtain ⟨t1, t2, t3, t4, t5, t6⟩ := T
  refine ⟨t1, t2, t3, ?_, t5, fun v => ?_⟩
  · have h2 := cw_succ (gn h0 89) q (gn h0 84 3)
    have h3 : ce (gn h0 89) (q + 1 + 1) 0 = 0 := rfl
    omega
  · rw [t6]
    constructor
    · rintro ⟨c, a, b, e⟩; exact ⟨c, a, b, by omega⟩
    · rintro ⟨c, a, b, e⟩; exact ⟨c, a, b, by omega⟩
theorem LT_skip {h0 h : pm_H} {q c n : Nat} (T : LT h0 h q c n) (he : ¬ gn h0 89 c = q + 1) : LT h0 h q (c + 1) n := by
  obtain ⟨t1, t2, t3, t4, t5, t6⟩ := T
  refine ⟨t1, t2, t3, ?_, t5, fun v => ?_⟩
  · rw [ce_F he]; exact t4
  · rw [t6]
    constructor
    · rintro ⟨c', a, b, e⟩; exact ⟨c', a, b, by omega⟩
    · rintro ⟨c', a, b, e⟩
      refine ⟨c', a, b, ?_⟩
      by_cases hcc : c' = c
      · subst hcc; omega
      · omega
theorem LT_add {h0 h : pm_H} {q c n : Nat} (hh0 : HH h0) (hL : LWf h0) (hq : q < gn h0 84 0) (T : LT h0 h q c n) (hc : c < gn h0 84 3) (he : gn h0 89 c = q + 1) : LT h0 (pt (pt h 92 (c + 1) (nJ (gn h 93 q))) 93 n (nJ (c + 1))) q (c + 1) (n + 1) := by
  have hn := LT_n T hc he
  obtain ⟨t1, t2, t3, t4, t5, t6⟩ := T
  have hC8 : gn h0 84 3 ≤ 8 := gn_hi hh0 rfl (by decide)
  have hb : gn h 93 q ≤ 8 := gn_hi t1 (bd_u rfl (by have := hL.1; omega)) (by decide)
  have hh1 : HH (pt h 92 (c + 1) (nJ (gn h 93 q))) := HH_ptn t1 (bd_u rfl (by omega)) (by omega) (by omega) (by omega)
  have hh2 : HH (pt (pt h 92 (c + 1) (nJ (gn h 93 q))) 93 n (nJ (c + 1))) := HH_ptn hh1 (bd_u rfl (by omega)) (by omega) (by omega) (by omega)
  have e93 : gn (pt (pt h 92 (c + 1) (nJ (gn h 93 q))) 93 n (nJ (c + 1))) 93 n = c + 1 := gn_ptn hh1 (bd_u rfl (by omega)) (by omega) (by omega) (by omega)
  have e93' : ∀ i, i ≠ n → gn (pt (pt h 92 (c + 1) (nJ (gn h 93 q))) 93 n (nJ (c + 1))) 93 i = gn h 93 i := fun i hi => by rw [gn_ne (fun _ => hi), gn_ne (by omega)]
  have e92 : gn (pt (pt h 92 (c + 1) (nJ (gn h 93 q))) 93 n (nJ (c + 1))) 92 (c + 1) = gn h 93 q := by rw [gn_ne (by omega), gn_ptn t1 (bd_u rfl (by omega)) (by omega) (by omega) (by omega)]
  have erl : rl (gn (pt (pt h 92 (c + 1) (nJ (gn h 93 q))) 93 n (nJ (c + 1))) 93) (n + 1 - 1) = (c + 1) :: rl (gn h 93) (n - 1) := by
    rw [show n + 1 - 1 = (n - 1) + 1 by omega]
    unfold rl
    rw [show n - 1 + 1 = n by omega, e93, rl_eq (g := gn h 93) (fun i h1 h2 => e93' i (by omega))]
    cases n - 1 <;> rfl
  have hnL : c + 1 ∉ rl (gn h 93) (n - 1) := fun hm => by
    obtain ⟨c', a, b, e⟩ := (t6 _).mp hm
    have : c' = c := by omega
    subst this
    omega
  refine ⟨hh2, fr_ptr (l := 0) (u := 8) rfl (by omega) (by omega) (fr_ptr (l := 0) (u := 8) rfl (by omega) (by omega) t2), ?_, ?_, ?_, ?_⟩
  · rw [e93' 0 (by omega)]; exact t3
  · rw [ce_T he]; omega
  · rw [erl]
    refine ⟨by omega, hnL, ?_, TL_upd (fun v hv => ?_) t5⟩
    · rw [e92]
      by_cases h0 : q = 0
      · subst h0; exact .inl t3
      · right
        have := hL.2 q (by omega) (by omega)
        rw [← hL.1] at this
        exact rl_mem (by omega) (by omega)
    · have : v ≠ c + 1 := fun e => hnL (e ▸ hv)
      rw [gn_ne (by omega), gn_ne (fun _ => this)]
  · intro v
    rw [erl, List.mem_cons, t6]
    constructor
    · rintro (rfl | ⟨c', a, b, e⟩)
      · exact ⟨c, hc, rfl, by omega⟩
      · exact ⟨c', a, b, by omega⟩
    · rintro ⟨c', a, b, e⟩
      by_cases hcc : c' = c
      · subst hcc; exact .inl b
      · exact .inr ⟨c', a, b, by omega⟩
theorem LT_end {h0 h : pm_H} {n : Nat} (hh0 : HH h0) (hL : LWf h0) (T : LT h0 h (gn h0 84 0) 0 n) : ∀ v, 1 ≤ v → v ≤ gn h0 84 3 → dep (hg h) 8 v ∧ gn h 92 v ≤ gn h0 84 3 := by
  obtain ⟨t1, t2, t3, t4, t5, t6⟩ := T
  intro v h1 h2
  have hC8 : gn h0 84 3 ≤ 8 := gn_hi hh0 rfl (by decide)
  have hw := cw_le (gn h0 89) (gn h0 84 0) (gn h0 84 3)
  have hall : ∀ c, c < gn h0 84 3 → gn h0 89 c ≤ gn h0 84 0 := cw_all (by
    have := hL.2 (gn h0 84 0) (by have := hL.1; omega) (Nat.le_refl _)
    rw [← hL.1] at this ⊢
    exact this)
  have h3 : ce (gn h0 89) (gn h0 84 0 + 1) 0 = 0 := rfl
  have hmem := (t6 v).mpr ⟨v - 1, by omega, by omega, .inl (by have := hall (v - 1) (by omega); omega)⟩
  constructor
  · rw [hg_gn]
    refine dep_le (TL_dep t5 v hmem) ?_
    rw [rl_len]
    omega
  · cases TL_par t5 v hmem with
    | inl e => omega
    | inr e =>
      obtain ⟨c', a, b, -⟩ := (t6 _).mp e
      omega
theorem lt_in {h0 : pm_H} {d q : Nat} (hh0 : HH h0) (hL : LWf h0) (hq : q < gn h0 84 0) (K : ∀ {h : pm_H} {n : Nat} (lv : List (Nat × Value)), LT h0 h (q + 1) 0 n → pm_get lv 0 = some (.ref 77) → pm_get lv 1 = some (.int (nJ n)) → pm_get lv 2 = some (.int (nJ (q + 1 + 1))) → Ends (pm_at tX9_laysTree) (pm_Rt pm_P (d + 1)) (11, lv, [], h, 0, 0) (fun h' r => r = none ∧ HH h' ∧ fr_g LM h0 h' ∧ ∀ v, 1 ≤ v → v ≤ gn h0 84 3 → dep (hg h') 8 v ∧ gn h' 92 v ≤ gn h0 84 3)) (j : Nat) : ∀ {h : pm_H} {c n : Nat} (lv : List (Nat × Value)), c + j = gn h0 84 3 → LT h0 h q c n → pm_get lv 0 = some (.ref 77) → pm_get lv 1 = some (.int (nJ n)) → pm_get lv 2 = some (.int (nJ (q + 1))) → pm_get lv 3 = some (.int (nJ c)) → Ends (pm_at tX9_laysTree) (pm_Rt pm_P (d + 1)) (21, lv, [], h, 0, 0) (fun h' r => r = none ∧ HH h' ∧ fr_g LM h0 h' ∧ ∀ v, 1 ≤ v → v ≤ gn h0 84 3 → dep (hg h') 8 v ∧ gn h' 92 v ≤ gn h0 84 3) := by
  have hC : gn h0 84 3 ≤ 8 := gn_hi hh0 rfl (by decide)
  have hCP := hL.1
  induction j with
  | zero =>
    intro h c n lv hj T L0 L1 L2 L3
    have hce : gn h 84 3 = gn h0 84 3 := fr_gn T.2.1 (rg_no rfl _)
    refine E_il rfl L3 ?_
    refine E_al rfl L0 ?_
    refine E_call rfl (sp_cars T.1) (chk77 T.1 rfl rfl (by show 1 ≤ 8; decide)) (fun h1 r1 => ?_)
    rintro ⟨e1, f1, c1⟩
    rw [e1, f1]
    show Ends _ _ (26, lv, [.int (nJ (gn h 84 3)), .int (nJ c)], h, 0, 0) _
    refine E_icT rfl (decide_eq_true ((nJ_le (by omega) (by omega)).mpr (by omega))) ?_
    refine E_inc rfl L2 (nJ_inc _) (fun lv2 L2_2 kp2 => ?_)
    have L2_0 := kp2 0 _ (by decide) rfl L0
    have L2_1 := kp2 1 _ (by decide) rfl L1
    have L2_3 := kp2 3 _ (by decide) rfl L3
    refine E_goto rfl ?_
    exact K lv2 (LT_next (by rw [show gn h0 84 3 = c by omega]; exact T)) L2_0 L2_1 L2_2
  | succ j ih =>
    intro h c n lv hj T L0 L1 L2 L3
    have hce : gn h 84 3 = gn h0 84 3 := fr_gn T.2.1 (rg_no rfl _)
    refine E_il rfl L3 ?_
    refine E_al rfl L0 ?_
    refine E_call rfl (sp_cars T.1) (chk77 T.1 rfl rfl (by show 1 ≤ 8; decide)) (fun h1 r1 => ?_)
    rintro ⟨e1, f1, c1⟩
    rw [e1, f1]
    show Ends _ _ (26, lv, [.int (nJ (gn h 84 3)), .int (nJ c)], h, 0, 0) _
    refine E_icF rfl (decide_eq_false (fun q => absurd ((nJ_le (by omega) (by omega)).mp q) (by omega))) ?_
    have hw8 : gn h0 89 c ≤ 8 := gn_hi hh0 (bd_u rfl (by omega)) (by decide)
    refine E_al rfl L0 ?_
    refine E_gr rfl T.1 (q := 89) rfl ?_
    refine E_il rfl L3 ?_
    refine E_ial rfl T.1 rfl (by omega) (by decide) (show gi h 89 c = nJ ((gn h0 89 c)) from (by rw [fr_gi T.2.1 (rg_no rfl _)]; exact gi_gn hh0 (bd_u rfl (by omega)) (by decide))) ?_
    refine E_il rfl L2 ?_
    by_cases hb2 : (gn h0 89 c) = (q + 1)
    · refine E_icT rfl (decide_eq_true ((nJ_eq (by omega) (by omega)).mpr hb2)) ?_
      have hn8 := LT_n T (by omega) (by omega)
      refine E_al rfl L0 ?_
      refine E_gr rfl T.1 (q := 92) rfl ?_
      refine E_il rfl L3 ?_
      refine E_ci 1 rfl (by decide) ?_
      refine E_bin rfl (nJ_add _ _) ?_
      refine E_al rfl L0 ?_
      refine E_gr rfl T.1 (q := 93) rfl ?_
      refine E_il rfl L2 ?_
      refine E_ci 1 rfl (by decide) ?_
      refine E_bin rfl (show nJ (q + 1) - nJ 1 = nJ q from nJ_sub (by omega)) ?_
      have b3 : gn h 93 q ≤ 8 := gn_hi T.1 (bd_u rfl (by omega)) (by decide)
      refine E_ial rfl T.1 rfl (by omega) (by decide) (gi_gn T.1 (bd_u rfl (by omega)) (by decide)) ?_
      refine E_ias rfl T.1 rfl (by omega) (by decide) ?_
      have hh4 : HH (pt h 92 ((c + 1)) (nJ ((gn h 93 q)))) := HH_ptn T.1 (bd_u rfl (by omega)) (by omega) (by omega) (by omega)
      refine E_al rfl L0 ?_
      refine E_gr rfl hh4 (q := 93) rfl ?_
      refine E_il rfl L1 ?_
      refine E_il rfl L3 ?_
      refine E_ci 1 rfl (by decide) ?_
      refine E_bin rfl (nJ_add _ _) ?_
      refine E_ias rfl hh4 rfl (by omega) (by decide) ?_
      have hh5 : HH (pt (pt h 92 ((c + 1)) (nJ ((gn h 93 q)))) 93 n (nJ ((c + 1)))) := HH_ptn hh4 (bd_u rfl (by omega)) (by omega) (by omega) (by omega)
      refine E_inc rfl L1 (nJ_inc _) (fun lv6 L6_1 kp6 => ?_)
      have L6_0 := kp6 0 _ (by decide) rfl L0
      have L6_2 := kp6 2 _ (by decide) rfl L2
      have L6_3 := kp6 3 _ (by decide) rfl L3
      refine E_inc rfl L6_3 (nJ_inc _) (fun lv7 L7_3 kp7 => ?_)
      have L7_0 := kp7 0 _ (by decide) rfl L6_0
      have L7_1 := kp7 1 _ (by decide) rfl L6_1
      have L7_2 := kp7 2 _ (by decide) rfl L6_2
      refine E_goto rfl ?_
      exact ih lv7 (by omega) (LT_add hh0 hL hq T (by omega) (by omega)) L7_0 L7_1 L7_2 L7_3
    · refine E_icF rfl (decide_eq_false (fun q => hb2 ((nJ_eq (by omega) (by omega)).mp q))) ?_
      refine E_goto rfl ?_
      refine E_inc rfl L3 (nJ_inc _) (fun lv8 L8_3 kp8 => ?_)
      have L8_0 := kp8 0 _ (by decide) rfl L0
      have L8_1 := kp8 1 _ (by decide) rfl L1
      have L8_2 := kp8 2 _ (by decide) rfl L2
      refine E_goto rfl ?_
      exact ih lv8 (by omega) (LT_skip T (by omega)) L8_0 L8_1 L8_2 L8_3
theorem lt_out {h0 : pm_H} {d : Nat} (hh0 : HH h0) (hL : LWf h0) (j : Nat) : ∀ {h : pm_H} {q n : Nat} (lv : List (Nat × Value)), q + j = gn h0 84 0 → LT h0 h q 0 n → pm_get lv 0 = some (.ref 77) → pm_get lv 1 = some (.int (nJ n)) → pm_get lv 2 = some (.int (nJ (q + 1))) → Ends (pm_at tX9_laysTree) (pm_Rt pm_P (d + 1)) (11, lv, [], h, 0, 0) (fun h' r => r = none ∧ HH h' ∧ fr_g LM h0 h' ∧ ∀ v, 1 ≤ v → v ≤ gn h0 84 3 → dep (hg h') 8 v ∧ gn h' 92 v ≤ gn h0 84 3) := by
  have hP : gn h0 84 0 ≤ 8 := gn_hi hh0 rfl (by decide)
  induction j with
  | zero =>
    intro h q n lv hj T L0 L1 L2
    have hpe : gn h 84 0 = gn h0 84 0 := fr_gn T.2.1 (rg_no rfl _)
    refine E_il rfl L2 ?_
    refine E_al rfl L0 ?_
    refine E_call rfl (sp_places T.1) (chk77 T.1 rfl rfl (by show 1 ≤ 8; decide)) (fun h1 r1 => ?_)
    rintro ⟨e1, f1, c1⟩
    rw [e1, f1]
    show Ends _ _ (16, lv, [.int (nJ (gn h 84 0)), .int (nJ (q + 1))], h, 0, 0) _
    refine E_icT rfl (decide_eq_true ((nJ_lt (by omega) (by omega)).mpr (by omega))) ?_
    exact E_ret rfl ⟨rfl, T.1, T.2.1, LT_end hh0 hL (by rw [show gn h0 84 0 = q by omega]; exact T)⟩
  | succ j ih =>
    intro h q n lv hj T L0 L1 L2
    have hpe : gn h 84 0 = gn h0 84 0 := fr_gn T.2.1 (rg_no rfl _)
    refine E_il rfl L2 ?_
    refine E_al rfl L0 ?_
    refine E_call rfl (sp_places T.1) (chk77 T.1 rfl rfl (by show 1 ≤ 8; decide)) (fun h1 r1 => ?_)
    rintro ⟨e1, f1, c1⟩
    rw [e1, f1]
    show Ends _ _ (16, lv, [.int (nJ (gn h 84 0)), .int (nJ (q + 1))], h, 0, 0) _
    refine E_icF rfl (decide_eq_false (fun q => absurd ((nJ_lt (by omega) (by omega)).mp q) (by omega))) ?_
    refine E_ci 0 rfl (by decide) ?_
    refine E_is rfl (fun lv2 L2_3 kp2 => ?_)
    have L2_0 := kp2 0 _ (by decide) rfl L0
    have L2_1 := kp2 1 _ (by decide) rfl L1
    have L2_2 := kp2 2 _ (by decide) rfl L2
    exact lt_in hh0 hL (by omega) (fun lv T a b c => ih lv (by omega) T a b c) (gn h0 84 3) (c := 0) lv2 (by omega) T L2_0 L2_1 L2_2 L2_3
theorem sp_laysTree {h0 : pm_H} {d : Nat} (hh : HH h0) (hL : LWf h0) (hw1 : ∀ c, c < gn h0 84 3 → 1 ≤ gn h0 89 c) : Sp (d + 2) 299 h0 [.ref 77] (fun h' r => r = none ∧ HH h' ∧ fr_g LM h0 h' ∧ ∀ v, 1 ≤ v → v ≤ gn h0 84 3 → dep (hg h') 8 v ∧ gn h' 92 v ≤ gn h0 84 3) := by
  have hz : cw (gn h0 89) 0 (gn h0 84 3) = 0 := cw_none (fun c hc => by have := hw1 c hc; omega)
  refine Sp_of aiX9_laysTree rfl rfl rfl ?_
  refine E_ci 1 rfl (by decide) ?_
  refine E_is rfl (fun lv1 L1_1 kp1 => ?_)
  have L1_0 := kp1 0 _ (by decide) rfl (show pm_get (lv_args 0 [.ref 77]) 0 = _ from rfl)
  refine E_al rfl L1_0 ?_
  refine E_gr rfl hh (q := 93) rfl ?_
  refine E_ci 0 rfl (by decide) ?_
  refine E_ci 0 rfl (by decide) ?_
  refine E_ias rfl hh rfl (by omega) (by decide) ?_
  have hh2 : HH (pt h0 93 0 (nJ 0)) := HH_ptn hh (bd_u rfl (by omega)) (by omega) (by omega) (by omega)
  refine E_ci 1 rfl (by decide) ?_
  refine E_is rfl (fun lv3 L3_2 kp3 => ?_)
  have L3_0 := kp3 0 _ (by decide) rfl L1_0
  have L3_1 := kp3 1 _ (by decide) rfl L1_1
  refine lt_out hh hL (gn h0 84 0) (q := 0) (n := 1) lv3 (by omega) ⟨hh2, fr_ptr (l := 0) (u := 8) rfl (by omega) (by omega) (fr_rf _ _), gn_ptn hh (bd_u rfl (by omega)) (by omega) (by omega) (by omega), ?_, trivial, fun v => ⟨fun hv => absurd hv List.not_mem_nil, fun ⟨c, a, b, e⟩ => ?_⟩⟩ L3_0 L3_1 L3_2
  · rw [hz]; rfl
  · exfalso; have := hw1 c a; omega
end
section
/-! by hand: a tree out of its edges (written by gen_t5.py) -/
theorem nJ_mul (a b : Nat) : nJ a * nJ b = nJ (a * b) := by
  unfold nJ
  rw [← Int32.ofInt_mul]
  rfl
/-- the other end of an edge -/
noncomputable def xr (k : Nat) : Nat := if k % 2 = 0 then k + 1 else k - 1
theorem xr_tab : ∀ k : Fin 18, nJ k.val ^^^ nJ 1 = nJ (xr k.val) := by decide +kernel
theorem xr_lt {k n : Nat} (h : k < 2 * n) : xr k < 2 * n := by
  unfold xr
  split <;> omega
theorem xr_xr (k : Nat) : xr (xr k) = k := by
  unfold xr
  by_cases h : k % 2 = 0
  · rw [if_pos h, if_neg (by omega)]; omega
  · rw [if_neg h, if_pos (by omega)]; omega
theorem sh_tab : ∀ n : Fin 10, nJ 1 <<< (nJ n.val &&& 31) = nJ (2 ^ n.val) := by decide +kernel
theorem full_ckX : (List.range 10).all (fun n => (List.range (2 ^ n)).all (fun m => Nat.beq m (2 ^ n - 1) || (List.range n).any (fun v => !(isB m v)))) = true := by decide +kernel
theorem full_tab : ∀ n : Fin 10, ∀ m : Fin 512, m.val < 2 ^ n.val → m.val ≠ 2 ^ n.val - 1 → ∃ v : Fin 9, v.val < n.val ∧ isB m.val v.val = false := by
  intro n m h1 h2
  have a := List.all_eq_true.mp (List.all_eq_true.mp full_ckX n.val (List.mem_range.mpr n.isLt)) m.val (List.mem_range.mpr h1)
  rw [Bool.or_eq_true] at a
  rcases a with a | a
  · exact absurd (Nat.eq_of_beq_eq_true a) h2
  · obtain ⟨v, hv, e⟩ := List.any_eq_true.mp a
    have hv := List.mem_range.mp hv
    have := n.isLt
    refine ⟨⟨v, by omega⟩, hv, ?_⟩
    cases k : isB m.val v
    · rfl
    · rw [k] at e; cases e
theorem all_tab : ∀ n : Fin 10, ∀ v : Fin 9, v.val < n.val → isB (2 ^ n.val - 1) v.val = true := by decide +kernel
theorem add_ckX : (List.range 10).all (fun n => (List.range (2 ^ n)).all (fun m => (List.range n).all (fun v => isB m v || Nat.blt (m + 2 ^ v) (2 ^ n)))) = true := by decide +kernel
theorem add_tab : ∀ n : Fin 10, ∀ m : Fin 512, m.val < 2 ^ n.val → ∀ v : Fin 9, v.val < n.val → isB m.val v.val = false → m.val + 2 ^ v.val < 2 ^ n.val := by
  intro n m h1 v h2 h3
  have a := List.all_eq_true.mp (List.all_eq_true.mp (List.all_eq_true.mp add_ckX n.val (List.mem_range.mpr n.isLt)) m.val (List.mem_range.mpr h1)) v.val (List.mem_range.mpr h2)
  rw [h3, Bool.false_or] at a
  exact Nat.le_of_ble_eq_true a
theorem pow_tab : ∀ n : Fin 10, 1 ≤ 2 ^ n.val ∧ 2 ^ n.val ≤ 512 := by decide +kernel
theorem pcn_slt {m m' v : Nat} : ∀ {n : Nat}, (∀ k, k < n → isB m k = true → isB m' k = true) → v < n → isB m v = false → isB m' v = true → pcn m n < pcn m' n
  | 0, _, h, _, _ => absurd h (Nat.not_lt_zero _)
  | n + 1, h, hv, h1, h2 => by
    unfold pcn
    by_cases hn : v = n
    · subst hn
      have := pcn_mono (n := v) (fun k hk => h k (by omega))
      rw [h1, h2, if_neg (by decide), if_pos rfl]
      omega
    · have := pcn_slt (n := n) (fun k hk => h k (by omega)) (by omega) h1 h2
      by_cases h3 : isB m n = true
      · rw [if_pos h3, if_pos (h n (by omega) h3)]; omega
      · rw [if_neg h3]; split <;> omega
noncomputable def RM : List Rng := [(92, 0, 8)]
noncomputable def RS (h0 h : pm_H) (N m : Nat) (L : List Nat) : Prop := HH h ∧ fr_g RM h0 h ∧ m < 2 ^ N ∧ isB m 0 = true ∧ TL (gn h 92) L ∧ (∀ v, v ∈ L ↔ v ≠ 0 ∧ v < N ∧ isB m v = true) ∧ L.length + 1 = pcn m N ∧ ∀ v, v ∈ L → gn h 92 v < N
theorem RS_add {h0 h : pm_H} {N m a b : Nat} {L : List Nat} (R : RS h0 h N m L) (hN : N ≤ 9) (ha : a < N) (hb : b < N) (h1 : isB m a = true) (h2 : isB m b = false) : RS h0 (pt h 92 b (nJ a)) N (m + 2 ^ b) (b :: L) := by
  obtain ⟨r1, r2, r3, r4, r5, r6, r7, r8⟩ := R
  have hm : m < 512 := Nat.lt_of_lt_of_le r3 (pow_tab ⟨N, by omega⟩).2
  have hh1 : HH (pt h 92 b (nJ a)) := HH_ptn r1 (bd_u rfl (by omega)) (by omega) (by omega) (by omega)
  have e92 : gn (pt h 92 b (nJ a)) 92 b = a := gn_ptn r1 (bd_u rfl (by omega)) (by omega) (by omega) (by omega)
  have hb0 : b ≠ 0 := fun e => by rw [e, r4] at h2; cases h2
  have hbL : b ∉ L := fun e => by rw [((r6 b).mp e).2.2] at h2; cases h2
  have hB : ∀ v, v < N → isB (m + 2 ^ b) v = (v == b || isB m v) := fun v hv => isB_add hm (by omega) (by omega) h2
  refine ⟨hh1, fr_ptr (l := 0) (u := 8) rfl (by omega) (by omega) r2, add_tab ⟨N, by omega⟩ ⟨m, hm⟩ r3 ⟨b, by omega⟩ hb h2, ?_, ⟨hb0, hbL, ?_, TL_upd (fun v hv => gn_ne (fun _ e => hbL (e ▸ hv))) r5⟩, fun v => ⟨fun hv => ?_, fun hv => ?_⟩, ?_, fun v hv => ?_⟩
  · rw [hB 0 (by omega), r4, Bool.or_true]
  · rw [e92]
    by_cases h0 : a = 0
    · exact .inl h0
    · exact .inr ((r6 a).mpr ⟨h0, ha, h1⟩)
  · cases List.mem_cons.mp hv with
    | inl e => subst e; exact ⟨hb0, hb, by rw [hB v hb, beq_self_eq_true]; rfl⟩
    | inr e =>
      obtain ⟨q1, q2, q3⟩ := (r6 v).mp e
      exact ⟨q1, q2, by rw [hB v q2, q3, Bool.or_true]⟩
  · obtain ⟨q1, q2, q3⟩ := hv
    by_cases e : v = b
    · rw [e]; exact List.mem_cons_self
    · rw [hB v q2, show (v == b) = false from beq_eq_false_iff_ne.mpr e, Bool.false_or] at q3
      exact List.mem_cons_of_mem _ ((r6 v).mpr ⟨q1, q2, q3⟩)
  · rw [List.length_cons, pcn_add hm (by omega) h2 hN, if_pos hb]; omega
  · cases List.mem_cons.mp hv with
    | inl e => rw [e, e92]; exact ha
    | inr e =>
      have hvb : v ≠ b := fun e2 => hbL (e2 ▸ e)
      rw [gn_ne (fun _ => hvb)]
      exact r8 v e
/-- every set of nodes with node 0 that isn't all is left by an edge -/
noncomputable def CNx (h0 : pm_H) (N : Nat) : Prop := ∀ m, m < 512 → isB m 0 = true → (∃ v, v < N ∧ isB m v = false) → ∃ k, k < 2 * (N - 1) ∧ isB m (gn h0 96 k) = true ∧ isB m (gn h0 96 (xr k)) = false
noncomputable def RQ (h0 : pm_H) (N : Nat) (h' : pm_H) (r : Option Value) : Prop := r = none ∧ HH h' ∧ fr_g RM h0 h' ∧ ∀ v, 1 ≤ v → v < N → dep (hg h') 8 v ∧ gn h' 92 v < N
theorem RS_end {h0 h : pm_H} {N m : Nat} {L : List Nat} (R : RS h0 h N m L) (hN : N ≤ 9) (hm : m = 2 ^ N - 1) : RQ h0 N h none := by
  obtain ⟨r1, r2, r3, r4, r5, r6, r7, r8⟩ := R
  refine ⟨rfl, r1, r2, fun v h1 h2 => ?_⟩
  have hv : v ∈ L := (r6 v).mpr ⟨by omega, h2, by rw [hm]; exact all_tab ⟨N, by omega⟩ ⟨v, by omega⟩ h2⟩
  refine ⟨?_, r8 v hv⟩
  rw [hg_gn]
  have := pcn_le m N
  exact dep_le (TL_dep r5 v hv) (by omega)
theorem ro_in {h0 : pm_H} {d N M0 : Nat} (hh0 : HH h0) (hN2 : 2 ≤ N) (hN9 : N ≤ 9) (hE : ∀ k, k < 2 * (N - 1) → gn h0 96 k < N) (K : ∀ {h : pm_H} {m : Nat} {L : List Nat} (lv : List (Nat × Value)), RS h0 h N m L → (∀ v, v < N → isB M0 v = true → isB m v = true) → (∀ k, k < 2 * (N - 1) → isB M0 (gn h0 96 k) = true → isB m (gn h0 96 (xr k)) = true) → pm_get lv 0 = some (.ref 77) → pm_get lv 1 = some (.int (nJ N)) → pm_get lv 2 = some (.int (nJ m)) → Ends (pm_at tX9_roots) (pm_Rt pm_P (d + 1)) (2, lv, [], h, 0, 0) (RQ h0 N)) (j : Nat) : ∀ {h : pm_H} {m k : Nat} {L : List Nat} (lv : List (Nat × Value)), k + j = 2 * (N - 1) → RS h0 h N m L → (∀ v, v < N → isB M0 v = true → isB m v = true) → (∀ k1, k1 < k → isB M0 (gn h0 96 k1) = true → isB m (gn h0 96 (xr k1)) = true) → pm_get lv 0 = some (.ref 77) → pm_get lv 1 = some (.int (nJ N)) → pm_get lv 2 = some (.int (nJ m)) → pm_get lv 3 = some (.int (nJ k)) → Ends (pm_at tX9_roots) (pm_Rt pm_P (d + 1)) (13, lv, [], h, 0, 0) (RQ h0 N) := by
  induction j with
  | zero =>
    intro h m k L lv hj R hsub hpr L0 L1 L2 L3
    have hm5 : m < 512 := Nat.lt_of_lt_of_le R.2.2.1 (pow_tab ⟨N, by omega⟩).2
    refine E_il rfl L3 ?_
    refine E_ci 2 rfl (by decide) ?_
    refine E_il rfl L1 ?_
    refine E_ci 1 rfl (by decide) ?_
    refine E_bin rfl (nJ_sub (by omega)) ?_
    refine E_bin rfl (nJ_mul _ _) ?_
    refine E_icT rfl (decide_eq_true ((nJ_le (by omega) (by omega)).mpr (by omega))) ?_
    refine E_goto rfl ?_
    exact K lv R hsub (fun k1 hk1 a => hpr k1 (by omega) a) L0 L1 L2
  | succ j ih =>
    intro h m k L lv hj R hsub hpr L0 L1 L2 L3
    have hm5 : m < 512 := Nat.lt_of_lt_of_le R.2.2.1 (pow_tab ⟨N, by omega⟩).2
    refine E_il rfl L3 ?_
    refine E_ci 2 rfl (by decide) ?_
    refine E_il rfl L1 ?_
    refine E_ci 1 rfl (by decide) ?_
    refine E_bin rfl (nJ_sub (by omega)) ?_
    refine E_bin rfl (nJ_mul _ _) ?_
    refine E_icF rfl (decide_eq_false (fun q => absurd ((nJ_le (by omega) (by omega)).mp q) (by omega))) ?_
    have hek := hE k (by omega)
    have hxl : xr k < 2 * (N - 1) := xr_lt (by omega)
    have hex := hE (xr k) hxl
    refine E_al rfl L0 ?_
    refine E_gr rfl R.1 (q := 96) rfl ?_
    refine E_il rfl L3 ?_
    refine E_ial rfl R.1 rfl (by omega) (by decide) (show gi h 96 k = nJ ((gn h0 96 k)) from (by rw [fr_gi R.2.1 (rg_no rfl _)]; exact gi_gn hh0 (bd_u rfl (by omega)) (by decide))) ?_
    refine E_is rfl (fun lv1 L1_4 kp1 => ?_)
    have L1_0 := kp1 0 _ (by decide) rfl L0
    have L1_1 := kp1 1 _ (by decide) rfl L1
    have L1_2 := kp1 2 _ (by decide) rfl L2
    have L1_3 := kp1 3 _ (by decide) rfl L3
    refine E_al rfl L1_0 ?_
    refine E_gr rfl R.1 (q := 96) rfl ?_
    refine E_il rfl L1_3 ?_
    refine E_ci 1 rfl (by decide) ?_
    refine E_bin rfl (show nJ k ^^^ nJ 1 = nJ (xr k) from xr_tab ⟨k, by omega⟩) ?_
    refine E_ial rfl R.1 rfl (by omega) (by decide) (show gi h 96 ((xr k)) = nJ ((gn h0 96 (xr k))) from (by rw [fr_gi R.2.1 (rg_no rfl _)]; exact gi_gn hh0 (bd_u rfl (by omega)) (by decide))) ?_
    refine E_is rfl (fun lv2 L2_5 kp2 => ?_)
    have L2_0 := kp2 0 _ (by decide) rfl L1_0
    have L2_1 := kp2 1 _ (by decide) rfl L1_1
    have L2_2 := kp2 2 _ (by decide) rfl L1_2
    have L2_3 := kp2 3 _ (by decide) rfl L1_3
    have L2_4 := kp2 4 _ (by decide) rfl L1_4
    refine E_il rfl L2_2 ?_
    refine E_il rfl L2_4 ?_
    refine E_call rfl (sp_isBit (by omega) (by omega)) (chkS rfl (by show 0 ≤ 8; decide)) (fun h3 r3 => ?_)
    rintro ⟨e3, f3⟩
    rw [e3, f3]
    show Ends _ _ (46, lv2, [.int (nJ (bif isB m ((gn h0 96 k)) then 1 else 0))], h, 0, 0) _
    by_cases hb4 : isB m (gn h0 96 k) = false
    · refine E_ifT rfl (by rw [hb4]; rfl) ?_
      refine E_inc rfl L2_3 (nJ_inc _) (fun lv5 L5_3 kp5 => ?_)
      have L5_0 := kp5 0 _ (by decide) rfl L2_0
      have L5_1 := kp5 1 _ (by decide) rfl L2_1
      have L5_2 := kp5 2 _ (by decide) rfl L2_2
      have L5_4 := kp5 4 _ (by decide) rfl L2_4
      have L5_5 := kp5 5 _ (by decide) rfl L2_5
      refine E_goto rfl ?_
      refine ih lv5 (by omega) R hsub (fun k1 hk1 a => ?_) L5_0 L5_1 L5_2 L5_3
      by_cases hkk : k1 = k
      · subst hkk; rw [hsub _ hek a] at hb4; cases hb4
      · exact hpr k1 (by omega) a
    · refine E_ifF rfl (by rw [Bool.not_eq_false] at hb4; rw [hb4]; rfl) ?_
      refine E_il rfl L2_2 ?_
      refine E_il rfl L2_5 ?_
      refine E_call rfl (sp_isBit (by omega) (by omega)) (chkS rfl (by show 0 ≤ 8; decide)) (fun h6 r6 => ?_)
      rintro ⟨e6, f6⟩
      rw [e6, f6]
      show Ends _ _ (55, lv2, [.int (nJ (bif isB m ((gn h0 96 (xr k))) then 1 else 0))], h, 0, 0) _
      by_cases hb7 : isB m (gn h0 96 (xr k)) = false
      · refine E_ifT rfl (by rw [hb7]; rfl) ?_
        rw [Bool.not_eq_false] at hb4
        obtain ⟨m2, hm2⟩ : ∃ m2, m2 = m + 2 ^ gn h0 96 (xr k) := ⟨_, rfl⟩
        have hm2l : m2 < 512 := by rw [hm2]; exact isB_add_lt hm5 (by omega) hb7
        have hup : ∀ v, v < N → isB m v = true → isB m2 v = true := fun v hv h4 => by rw [hm2, isB_add hm5 (by omega) (by omega) hb7, h4, Bool.or_true]
        refine E_al rfl L2_0 ?_
        refine E_gr rfl R.1 (q := 92) rfl ?_
        refine E_il rfl L2_5 ?_
        refine E_il rfl L2_4 ?_
        refine E_ias rfl R.1 rfl (by omega) (by decide) ?_
        have hh8 : HH (pt h 92 ((gn h0 96 (xr k))) (nJ ((gn h0 96 k)))) := HH_ptn R.1 (bd_u rfl (by omega)) (by omega) (by omega) (by omega)
        refine E_il rfl L2_2 ?_
        refine E_ci 1 rfl (by decide) ?_
        refine E_il rfl L2_5 ?_
        refine E_bin rfl rfl ?_
        refine E_bin rfl (show nJ m ||| nJ 1 <<< (nJ (gn h0 96 (xr k)) &&& 31) = nJ m2 from (by rw [hm2]; exact or_new hm5 (by omega) hb7)) ?_
        refine E_is rfl (fun lv9 L9_2 kp9 => ?_)
        have L9_0 := kp9 0 _ (by decide) rfl L2_0
        have L9_1 := kp9 1 _ (by decide) rfl L2_1
        have L9_3 := kp9 3 _ (by decide) rfl L2_3
        have L9_4 := kp9 4 _ (by decide) rfl L2_4
        have L9_5 := kp9 5 _ (by decide) rfl L2_5
        refine E_inc rfl L9_3 (nJ_inc _) (fun lv10 L10_3 kp10 => ?_)
        have L10_0 := kp10 0 _ (by decide) rfl L9_0
        have L10_1 := kp10 1 _ (by decide) rfl L9_1
        have L10_2 := kp10 2 _ (by decide) rfl L9_2
        have L10_4 := kp10 4 _ (by decide) rfl L9_4
        have L10_5 := kp10 5 _ (by decide) rfl L9_5
        refine E_goto rfl ?_
        refine ih lv10 (by omega) (hm2 ▸ RS_add R hN9 hek hex hb4 hb7) (fun v hv a => hup v hv (hsub v hv a)) (fun k1 hk1 a => ?_) L10_0 L10_1 L10_2 L10_3
        by_cases hkk : k1 = k
        · subst hkk; rw [hm2, isB_add hm5 (by omega) (by omega) hb7, beq_self_eq_true]; rfl
        · exact hup _ (hE _ (xr_lt (by omega))) (hpr k1 (by omega) a)
      · refine E_ifF rfl (by rw [Bool.not_eq_false] at hb7; rw [hb7]; rfl) ?_
        refine E_goto rfl ?_
        refine E_inc rfl L2_3 (nJ_inc _) (fun lv11 L11_3 kp11 => ?_)
        have L11_0 := kp11 0 _ (by decide) rfl L2_0
        have L11_1 := kp11 1 _ (by decide) rfl L2_1
        have L11_2 := kp11 2 _ (by decide) rfl L2_2
        have L11_4 := kp11 4 _ (by decide) rfl L2_4
        have L11_5 := kp11 5 _ (by decide) rfl L2_5
        refine E_goto rfl ?_
        refine ih lv11 (by omega) R hsub (fun k1 hk1 a => ?_) L11_0 L11_1 L11_2 L11_3
        by_cases hkk : k1 = k
        · subst hkk; rw [Bool.not_eq_false] at hb7; exact hb7
        · exact hpr k1 (by omega) a
theorem ro_one {h0 : pm_H} {d N u : Nat} (hh0 : HH h0) (hN2 : 2 ≤ N) (hN9 : N ≤ 9) (hE : ∀ k, k < 2 * (N - 1) → gn h0 96 k < N) (hC : CNx h0 N) (ih : ∀ u', u = u' + 1 → ∀ {h : pm_H} {m : Nat} {L : List Nat} (lv : List (Nat × Value)), RS h0 h N m L → N ≤ u' + pcn m N → pm_get lv 0 = some (.ref 77) → pm_get lv 1 = some (.int (nJ N)) → pm_get lv 2 = some (.int (nJ m)) → Ends (pm_at tX9_roots) (pm_Rt pm_P (d + 1)) (2, lv, [], h, 0, 0) (RQ h0 N)) {h : pm_H} {m : Nat} {L : List Nat} (lv : List (Nat × Value)) (R : RS h0 h N m L) (hu : N ≤ u + pcn m N) (L0 : pm_get lv 0 = some (.ref 77)) (L1 : pm_get lv 1 = some (.int (nJ N))) (L2 : pm_get lv 2 = some (.int (nJ m))) : Ends (pm_at tX9_roots) (pm_Rt pm_P (d + 1)) (2, lv, [], h, 0, 0) (RQ h0 N) := by
  have hm5 : m < 512 := Nat.lt_of_lt_of_le R.2.2.1 (pow_tab ⟨N, by omega⟩).2
  obtain ⟨T, hT⟩ : ∃ T, T = 2 ^ N := ⟨_, rfl⟩
  have hT1 : 1 ≤ T ∧ T ≤ 512 := by rw [hT]; exact pow_tab ⟨N, by omega⟩
  refine E_il rfl L2 ?_
  refine E_ci 1 rfl (by decide) ?_
  refine E_il rfl L1 ?_
  refine E_bin rfl (show nJ 1 <<< (nJ N &&& 31) = nJ T from (by rw [hT]; exact sh_tab ⟨N, by omega⟩)) ?_
  refine E_ci 1 rfl (by decide) ?_
  refine E_bin rfl (nJ_sub (by omega)) ?_
  by_cases hb1 : m = (T - 1)
  · refine E_icT rfl (decide_eq_true ((nJ_eq (by omega) (by omega)).mpr hb1)) ?_
    exact E_ret rfl (RS_end R hN9 (by rw [hT] at hb1; exact hb1))
  · refine E_icF rfl (decide_eq_false (fun q => hb1 ((nJ_eq (by omega) (by omega)).mp q))) ?_
    refine E_ci 0 rfl (by decide) ?_
    refine E_is rfl (fun lv2 L2_3 kp2 => ?_)
    have L2_0 := kp2 0 _ (by decide) rfl L0
    have L2_1 := kp2 1 _ (by decide) rfl L1
    have L2_2 := kp2 2 _ (by decide) rfl L2
    obtain ⟨v0, hv1, hv2⟩ := full_tab ⟨N, by omega⟩ ⟨m, hm5⟩ R.2.2.1 (by rw [hT] at hb1; exact hb1)
    have hpl : pcn m N < N := pcn_lt hv2 hv1
    obtain ⟨k0, hk0, hk1, hk2⟩ := hC m hm5 R.2.2.2.1 ⟨v0, hv1, hv2⟩
    refine ro_in hh0 hN2 hN9 hE (fun {h'} {m'} {L'} lv' R' sub' pr' a b c => ?_) (2 * (N - 1)) (k := 0) lv2 (by omega) R (fun _ _ a => a) (fun k1 hk1 _ => absurd hk1 (Nat.not_lt_zero _)) L2_0 L2_1 L2_2 L2_3
    have := pcn_slt (n := N) sub' (hE _ (xr_lt hk0)) hk2 (pr' k0 hk0 hk1)
    cases u with
    | zero => exfalso; omega
    | succ u => exact ih u rfl lv' R' (by omega) a b c
theorem ro_out {h0 : pm_H} {d N : Nat} (hh0 : HH h0) (hN2 : 2 ≤ N) (hN9 : N ≤ 9) (hE : ∀ k, k < 2 * (N - 1) → gn h0 96 k < N) (hC : CNx h0 N) : ∀ (u : Nat) {h : pm_H} {m : Nat} {L : List Nat} (lv : List (Nat × Value)), RS h0 h N m L → N ≤ u + pcn m N → pm_get lv 0 = some (.ref 77) → pm_get lv 1 = some (.int (nJ N)) → pm_get lv 2 = some (.int (nJ m)) → Ends (pm_at tX9_roots) (pm_Rt pm_P (d + 1)) (2, lv, [], h, 0, 0) (RQ h0 N)
  | 0 => ro_one hh0 hN2 hN9 hE hC (fun u' hu' => by omega)
  | u + 1 => ro_one hh0 hN2 hN9 hE hC (fun u' hu' => by
      have : u' = u := by omega
      subst this
      exact @ro_out h0 d N hh0 hN2 hN9 hE hC u')
theorem one_tab : ∀ n : Fin 10, 2 ≤ n.val → 1 < 2 ^ n.val := by decide +kernel
theorem pc1_tab : ∀ n : Fin 10, 2 ≤ n.val → ([] : List Nat).length + 1 = pcn 1 n.val := by decide +kernel
theorem one_bit : ∀ v : Fin 9, v.val ≠ 0 → isB 1 v.val = false := by decide +kernel
theorem sp_roots {h0 : pm_H} {d N : Nat} (hh : HH h0) (hN2 : 2 ≤ N) (hN9 : N ≤ 9) (hE : ∀ k, k < 2 * (N - 1) → gn h0 96 k < N) (hC : CNx h0 N) : Sp (d + 2) 337 h0 [.ref 77, .int (nJ N)] (RQ h0 N) := by
  refine Sp_of aiX9_roots rfl rfl rfl ?_
  refine E_ci 1 rfl (by decide) ?_
  refine E_is rfl (fun lv1 L1_2 kp1 => ?_)
  have L1_0 := kp1 0 _ (by decide) rfl (show pm_get (lv_args 0 [.ref 77, .int (nJ N)]) 0 = _ from rfl)
  have L1_1 := kp1 1 _ (by decide) rfl (show pm_get (lv_args 0 [.ref 77, .int (nJ N)]) 1 = _ from rfl)
  refine ro_out hh hN2 hN9 hE hC N (m := 1) (L := []) lv1 ⟨hh, fr_rf _ _, one_tab ⟨N, by omega⟩ hN2, rfl, trivial, fun v => ⟨fun hv => absurd hv List.not_mem_nil, fun ⟨q1, q2, q3⟩ => absurd q3 (by rw [one_bit ⟨v, by omega⟩ q1]; decide)⟩, pc1_tab ⟨N, by omega⟩ hN2, fun v hv => absurd hv List.not_mem_nil⟩ (by omega) L1_0 L1_1 L1_2
end
