section
section AIO
variable {w : AW}
theorem ai_ofi {x : Int32} {l : Int} (h : x.toInt = l) : x = Int32.ofInt l := by rw [← h, Int32.ofInt_toInt]
/-- two ints: exact, or by bounds -/
noncomputable def bo (op : Int32 → Int32 → Int32) (f : Int → Int → Int → Int → Int × Int) (l1 u1 l2 u2 : Int) : Int × Int := bif decide (l1 = u1) && decide (l2 = u2) then ((op (Int32.ofInt l1) (Int32.ofInt l2)).toInt, (op (Int32.ofInt l1) (Int32.ofInt l2)).toInt) else f l1 u1 l2 u2
noncomputable def bo_ok (op : Int32 → Int32 → Int32) (f : Int → Int → Int → Int → Int × Int) : Prop := ∀ (x y : Int32) (l1 u1 l2 u2 : Int), l1 ≤ x.toInt → x.toInt ≤ u1 → l2 ≤ y.toInt → y.toInt ≤ u2 → (f l1 u1 l2 u2).1 ≤ (op x y).toInt ∧ (op x y).toInt ≤ (f l1 u1 l2 u2).2
theorem bo_okx {op : Int32 → Int32 → Int32} {f : Int → Int → Int → Int → Int × Int} (h : bo_ok op f) : bo_ok op (bo op f) := by
  intro x y l1 u1 l2 u2 h1 h2 h3 h4
  unfold bo
  cases hb : (decide (l1 = u1) && decide (l2 = u2)) with
  | false => exact h x y l1 u1 l2 u2 h1 h2 h3 h4
  | true =>
    simp only [Bool.and_eq_true, decide_eq_true_eq] at hb
    rw [← ai_ofi (x := x) (l := l1) (by omega), ← ai_ofi (x := y) (l := l2) (by omega)]
    exact ⟨Int.le_refl _, Int.le_refl _⟩
noncomputable def a_bin (f : Int → Int → Int → Int → Int × Int) (n : Nat) : AS → Option (List AS) := fun A => match A.2.2.1 with
  | .inl (k2, o2) :: .inl (k1, o1) :: st => match iv_rng A.2.2.2.1 k1 o1, iv_rng A.2.2.2.1 k2 o2 with
    | some (l1, u1), some (l2, u2) => some [a_pi n A.2.1 st A.2.2.2.1 A.2.2.2.2 (f l1 u1 l2 u2).1 (f l1 u1 l2 u2).2]
    | _, _ => none
  | _ => none
theorem a_bin_ok {op : Int32 → Int32 → Int32} {f : Int → Int → Int → Int → Int × Int} (n : Nat) (hf : bo_ok op f) : ai_ok w (s_bin op n) (a_bin f n) := by
  rintro E ⟨pc, lv, st, iv, ex⟩ ⟨pc', cl, cs, W⟩ As ⟨ρ, g1, g2, g3, g4, g5⟩ h
  simp only [a_bin] at h
  split at h
  · rename_i k2 o2 k1 o1 st'
    split at h
    · rename_i l1 u1 l2 u2 r1 r2
      cases h
      obtain ⟨v, cs, rfl, ha, hr0⟩ := f2_cons g4
      obtain ⟨u, cs, rfl, hc, hr⟩ := f2_cons hr0
      obtain ⟨y, rfl, ha⟩ := av_int ha
      obtain ⟨x, rfl, hc⟩ := av_int hc
      have b1 := iv_rng_ok g1 hc r1
      have b2 := iv_rng_ok g1 ha r2
      have hq := hf x y l1 u1 l2 u2 b1.1 b1.2 b2.1 b2.2
      exact ⟨_, rfl, _, List.mem_singleton_self _, a_pi_ok (pc := pc) (pc' := pc') ⟨g1, g2, g3, hr, g5⟩ hq.1 hq.2⟩
    · cases h
  · cases h
noncomputable def a_div (f : Int → Int → Int → Int → Int × Int) (n : Nat) : AS → Option (List AS) := fun A => match A.2.2.1 with
  | .inl (k2, o2) :: .inl (k1, o1) :: st => match iv_rng A.2.2.2.1 k1 o1, iv_rng A.2.2.2.1 k2 o2 with
    | some (l1, u1), some (l2, u2) => bif decide (0 < l2) then some [a_pi n A.2.1 st A.2.2.2.1 A.2.2.2.2 (f l1 u1 l2 u2).1 (f l1 u1 l2 u2).2] else none
    | _, _ => none
  | _ => none
noncomputable def bd_ok (op : Int32 → Int32 → Int32) (f : Int → Int → Int → Int → Int × Int) : Prop := ∀ (x y : Int32) (l1 u1 l2 u2 : Int), 0 < l2 → l1 ≤ x.toInt → x.toInt ≤ u1 → l2 ≤ y.toInt → y.toInt ≤ u2 → (f l1 u1 l2 u2).1 ≤ (op x y).toInt ∧ (op x y).toInt ≤ (f l1 u1 l2 u2).2
theorem bd_okx {op : Int32 → Int32 → Int32} {f : Int → Int → Int → Int → Int × Int} (h : bd_ok op f) : bd_ok op (bo op f) := by
  intro x y l1 u1 l2 u2 h0 h1 h2 h3 h4
  unfold bo
  cases hb : (decide (l1 = u1) && decide (l2 = u2)) with
  | false => exact h x y l1 u1 l2 u2 h0 h1 h2 h3 h4
  | true =>
    simp only [Bool.and_eq_true, decide_eq_true_eq] at hb
    rw [← ai_ofi (x := x) (l := l1) (by omega), ← ai_ofi (x := y) (l := l2) (by omega)]
    exact ⟨Int.le_refl _, Int.le_refl _⟩
theorem a_div_ok {op : Int32 → Int32 → Int32} {f : Int → Int → Int → Int → Int × Int} (n : Nat) (hf : bd_ok op f) : ai_ok w (s_div op n) (a_div f n) := by
  rintro E ⟨pc, lv, st, iv, ex⟩ ⟨pc', cl, cs, W⟩ As ⟨ρ, g1, g2, g3, g4, g5⟩ h
  simp only [a_div] at h
  split at h
  · rename_i k2 o2 k1 o1 st'
    split at h
    · rename_i l1 u1 l2 u2 r1 r2
      cases hb : decide (0 < l2) with
      | false => rw [hb] at h; cases h
      | true =>
        rw [hb] at h
        have hb := of_decide_eq_true hb
        cases h
        obtain ⟨v, cs, rfl, ha, hr0⟩ := f2_cons g4
        obtain ⟨u, cs, rfl, hc, hr⟩ := f2_cons hr0
        obtain ⟨y, rfl, ha⟩ := av_int ha
        obtain ⟨x, rfl, hc⟩ := av_int hc
        have b1 := iv_rng_ok g1 hc r1
        have b2 := iv_rng_ok g1 ha r2
        have hq := hf x y l1 u1 l2 u2 hb b1.1 b1.2 b2.1 b2.2
        have hy : ¬ y = 0 := by
          intro e
          subst e
          have : (0 : Int32).toInt = 0 := rfl
          omega
        exact ⟨(n, cl, .int (op x y) :: cs, W), by simp only [s_div, if_neg hy], _, List.mem_singleton_self _, a_pi_ok (pc := pc) (pc' := pc') ⟨g1, g2, g3, hr, g5⟩ hq.1 hq.2⟩
    · cases h
  · cases h
/-- bounds of each operation -/
noncomputable def fb_top (_ _ _ _ : Int) : Int × Int := (-2147483648, 2147483647)
theorem fb_top_ok (op : Int32 → Int32 → Int32) : bo_ok op fb_top := fun _ _ _ _ _ _ _ _ _ _ => ⟨ai_lo _, ai_hi _⟩
noncomputable def fb_mul (l1 u1 l2 u2 : Int) : Int × Int := ai_bnd (mn4 (l1 * l2) (l1 * u2) (u1 * l2) (u1 * u2)) (mx4 (l1 * l2) (l1 * u2) (u1 * l2) (u1 * u2))
theorem fb_mul_ok : bo_ok (fun x y => x * y) fb_mul := by
  intro x y l1 u1 l2 u2 h1 h2 h3 h4
  have hm := mul_rg h1 h2 h3 h4
  refine ai_bnd_ok (fun hb => ?_)
  have hi := ai_in_ok hb
  show _ ≤ (x * y).toInt ∧ (x * y).toInt ≤ _
  rw [ai_mul (by omega) (by omega)]
  exact hm
noncomputable def fb_and (l1 u1 l2 u2 : Int) : Int × Int := bif decide (0 ≤ l1) then (0, bif decide (0 ≤ l2) then min u1 u2 else u1) else (bif decide (0 ≤ l2) then (0, u2) else (-2147483648, 2147483647))
theorem fb_and_ok : bo_ok (fun x y => x &&& y) fb_and := by
  intro x y l1 u1 l2 u2 h1 h2 h3 h4
  unfold fb_and
  cases ha : decide (0 ≤ l1) with
  | true =>
    have ha := of_decide_eq_true ha
    have q1 := ai_and1 (x := x) (y := y) (by omega)
    cases hb : decide (0 ≤ l2) with
    | true =>
      have hb := of_decide_eq_true hb
      have q2 := ai_and2 (x := x) (y := y) (by omega)
      show 0 ≤ (x &&& y).toInt ∧ (x &&& y).toInt ≤ min u1 u2
      omega
    | false => show 0 ≤ (x &&& y).toInt ∧ (x &&& y).toInt ≤ u1; omega
  | false =>
    cases hb : decide (0 ≤ l2) with
    | true =>
      have hb := of_decide_eq_true hb
      have q2 := ai_and2 (x := x) (y := y) (by omega)
      show 0 ≤ (x &&& y).toInt ∧ (x &&& y).toInt ≤ u2
      omega
    | false => exact ⟨ai_lo _, ai_hi _⟩
end AIO
end
