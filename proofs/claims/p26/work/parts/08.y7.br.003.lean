section
section AIB
variable {w : AW}
noncomputable def a_if1 (c t n : Nat) : AS → Option (List AS) := fun A => match A.2.2.1 with
  | .inl (k1, o1) :: st => some ((br c t A.2.1 st A.2.2.2.1 A.2.2.2.2 k1 o1 none 0).toList ++ (br (ic_not c) n A.2.1 st A.2.2.2.1 A.2.2.2.2 k1 o1 none 0).toList)
  | _ => none
theorem a_if1_ok {q : Int32 → Bool} (c t n : Nat) (hq : ∀ x : Int32, q x = ic c x.toInt 0) : ai_ok w (s_if q t n) (a_if1 c t n) := by
  rintro E ⟨pc, lv, st, iv, ex⟩ ⟨pc', cl, cs, W⟩ As ⟨ρ, g1, g2, g3, g4, g5⟩ h
  simp only [a_if1] at h
  split at h
  · rename_i k1 o1 st'
    cases h
    obtain ⟨u, cs, rfl, hc, hr⟩ := f2_cons g4
    obtain ⟨x, rfl, hc⟩ := av_int hc
    have h0 : av_ev iv.length ρ none 0 0 := rfl
    cases hb : ic c x.toInt 0 with
    | true =>
      obtain ⟨B, e1, e2⟩ := br_ok (n := t) (pc := pc) (pc' := pc') (st := st') (cs := cs) c ⟨g1, g2, g3, hr, g5⟩ hc h0 hb
      refine ⟨(t, cl, cs, W), by simp only [s_if, hq, hb, cond_true], B, ?_, ρ, e2⟩
      rw [e1]
      exact List.mem_append_left _ (List.mem_singleton_self _)
    | false =>
      obtain ⟨B, e1, e2⟩ := br_ok (n := n) (pc := pc) (pc' := pc') (st := st') (cs := cs) (ic_not c) ⟨g1, g2, g3, hr, g5⟩ hc h0 (ic_not_ok hb)
      refine ⟨(n, cl, cs, W), by simp only [s_if, hq, hb, cond_false], B, ?_, ρ, e2⟩
      rw [e1]
      exact List.mem_append_right _ (List.mem_singleton_self _)
  · cases h
/-- two longs compared: three branches -/
noncomputable def a_lcmp (n : Nat) : AS → Option (List AS) := fun A => match A.2.2.1 with
  | .inr (.inl (k2, o2)) :: .inr (.inl (k1, o1)) :: st => some ((br 2 n A.2.1 (.inl (none, -1) :: st) A.2.2.2.1 A.2.2.2.2 k1 o1 k2 o2).toList ++ ((br 0 n A.2.1 (.inl (none, 0) :: st) A.2.2.2.1 A.2.2.2.2 k1 o1 k2 o2).toList ++ (br 4 n A.2.1 (.inl (none, 1) :: st) A.2.2.2.1 A.2.2.2.2 k1 o1 k2 o2).toList))
  | _ => none
theorem a_lcmp_ok (n : Nat) : ai_ok w (s_lcmp n) (a_lcmp n) := by
  rintro E ⟨pc, lv, st, iv, ex⟩ ⟨pc', cl, cs, W⟩ As ⟨ρ, g1, g2, g3, g4, g5⟩ h
  simp only [a_lcmp] at h
  split at h
  · rename_i k2 o2 k1 o1 st'
    cases h
    obtain ⟨v, cs, rfl, ha, hr0⟩ := f2_cons g4
    obtain ⟨u, cs, rfl, hc, hr⟩ := f2_cons hr0
    obtain ⟨y, rfl, ha⟩ := av_long ha
    obtain ⟨x, rfl, hc⟩ := av_long hc
    refine ⟨(n, cl, .int (lg_cmp x y) :: cs, W), rfl, ?_⟩
    by_cases h1 : x.toInt < y.toInt
    · have hv : lg_cmp x y = -1 := by
        unfold lg_cmp
        rw [if_neg (by rw [gt_iff_lt, Int64.lt_iff_toInt_lt]; omega), if_neg (by intro e; subst e; omega)]
      obtain ⟨B, e1, e2⟩ := br_ok (n := n) (pc := pc) (pc' := pc') (st := .inl (none, -1) :: st') (cs := .int (lg_cmp x y) :: cs) 2 ⟨g1, g2, g3, ⟨(by rw [hv]; rfl), hr⟩, g5⟩ hc ha (decide_eq_true h1)
      exact ⟨B, by rw [e1]; exact List.mem_append_left _ (List.mem_singleton_self _), ρ, e2⟩
    · by_cases h2 : x.toInt = y.toInt
      · have hv : lg_cmp x y = 0 := by
          unfold lg_cmp
          rw [if_neg (by rw [gt_iff_lt, Int64.lt_iff_toInt_lt]; omega), if_pos (Int64.toInt_inj.mp h2)]
        obtain ⟨B, e1, e2⟩ := br_ok (n := n) (pc := pc) (pc' := pc') (st := .inl (none, 0) :: st') (cs := .int (lg_cmp x y) :: cs) 0 ⟨g1, g2, g3, ⟨(by rw [hv]; rfl), hr⟩, g5⟩ hc ha (decide_eq_true h2)
        exact ⟨B, by rw [e1]; exact List.mem_append_right _ (List.mem_append_left _ (List.mem_singleton_self _)), ρ, e2⟩
      · have h3 : y.toInt < x.toInt := by omega
        have hv : lg_cmp x y = 1 := by
          unfold lg_cmp
          rw [if_pos (by rw [gt_iff_lt, Int64.lt_iff_toInt_lt]; exact h3)]
        obtain ⟨B, e1, e2⟩ := br_ok (n := n) (pc := pc) (pc' := pc') (st := .inl (none, 1) :: st') (cs := .int (lg_cmp x y) :: cs) 4 ⟨g1, g2, g3, ⟨(by rw [hv]; rfl), hr⟩, g5⟩ hc ha (decide_eq_true h3)
        exact ⟨B, by rw [e1]; exact List.mem_append_right _ (List.mem_append_right _ (List.mem_singleton_self _)), ρ, e2⟩
  · cases h
end AIB
end
section
/-! THE EXECUTOR (second writing), part 8: fields, arrays, switches, what lies outside -/
section AIH
variable {w : AW}
theorem ai_ix {i : Int32} {len : Nat} (h1 : 0 ≤ i.toInt) (h2 : i.toInt < (len : Int)) : pm_ix i len = true := by
  unfold pm_ix
  have h3 : ¬ i < 0 := by rw [Int32.lt_iff_toInt_lt]; show ¬ i.toInt < 0; omega
  have h4 : i.toNatClampNeg < len := by show i.toInt.toNat < len; omega
  simp only [h3, decide_false, Bool.not_false, Bool.true_and]
  exact Nat.ble_eq_true_of_le h4
noncomputable def mem_get : Mem → Nat → Nat → Option AV
  | [], _, _ => none
  | q :: l, a, k => bif Nat.beq q.1.1 a && Nat.beq q.1.2 k then some q.2 else mem_get l a k
theorem mem_get_in {a k : Nat} {v : AV} : ∀ {m : Mem}, mem_get m a k = some v → ((a, k), v) ∈ m
  | [], h => by cases h
  | ((a', k'), v') :: l, h => by
    unfold mem_get at h
    cases hb : (Nat.beq a' a && Nat.beq k' k) with
    | true =>
      simp only [hb, cond_true] at h
      rw [Bool.and_eq_true] at hb
      have h1 := Nat.eq_of_beq_eq_true hb.1
      have h2 := Nat.eq_of_beq_eq_true hb.2
      subst h1; subst h2
      cases h
      exact List.mem_cons_self
    | false =>
      simp only [hb, cond_false] at h
      exact List.mem_cons_of_mem _ (mem_get_in h)
/-- an int that lies at a known place is pushed, and known from now on -/
noncomputable def a_gm (n : Nat) (lv : List (Nat × AV)) (st : List AV) (iv : IV) (ex : AX) (a k : Nat) (lo hi : Int) : Option AS := match mem_get ex.1 a k with
  | some (.inl (q, o)) => some (n, lv, .inl (q, o) :: st, iv, ex)
  | some _ => none
  | none => bif decide (lo = hi) then some (n, lv, .inl (none, lo) :: st, iv, ((a, k), .inl (none, lo)) :: ex.1, ex.2) else some (n, lv, .inl (some iv.length, 0) :: st, iv ++ [(lo, hi)], ((a, k), .inl (some iv.length, 0)) :: ex.1, ex.2)
theorem a_gm_ok {E : AEnv} {ρ : Nat → Int} {pc n : Nat} {lv : List (Nat × AV)} {st : List AV} {iv : IV} {ex : AX} {pc' : Nat} {cl : List (Nat × Value)} {cs : List Value} {W : pm_H × Nat × Nat} {v : Int32} {a k : Nat} {lo hi : Int} {A : AS} (g : as_r w E ρ (pc, lv, st, iv, ex) (pc', cl, cs, W)) (hl : ld W.1 a k = some (.int v)) (h1 : lo ≤ v.toInt) (h2 : v.toInt ≤ hi)
    (h : a_gm n lv st iv ex a k lo hi = some A) : as_g w E A (n, cl, .int v :: cs, W) := by
  unfold a_gm at h
  split at h
  · rename_i q o hm
    cases h
    obtain ⟨g1, g2, g3, g4, g5⟩ := g
    obtain ⟨u, e1, e2⟩ := g5.2.1 _ _ (mem_get_in hm)
    dsimp only at e1
    rw [hl] at e1
    cases e1
    exact ⟨ρ, g1, rfl, g3, ⟨e2, g4⟩, g5⟩
  · cases h
  · cases hb : decide (lo = hi) with
    | true =>
      rw [hb] at h
      cases h
      have hb := of_decide_eq_true hb
      obtain ⟨g1, g2, g3, g4, g5⟩ := g
      have hv : v.toInt = lo := by omega
      refine ⟨ρ, g1, rfl, g3, ⟨hv, g4⟩, g5.1, fun q b hm => ?_, g5.2.2⟩
      cases List.mem_cons.mp hm with
      | inl e => cases e; exact ⟨_, hl, hv⟩
      | inr hm => exact g5.2.1 q b hm
    | false =>
      rw [hb] at h
      cases h
      obtain ⟨⟨g1, g2, g3, g4, g5⟩, e⟩ := as_grow g h1 h2
      refine ⟨_, g1, rfl, g3, ⟨e, g4⟩, g5.1, fun q b hm => ?_, g5.2.2⟩
      cases List.mem_cons.mp hm with
      | inl e' => cases e'; exact ⟨_, hl, e⟩
      | inr hm => exact g5.2.1 q b hm
end AIH
end
