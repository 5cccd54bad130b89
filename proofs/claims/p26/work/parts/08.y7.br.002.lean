section
section AIB
variable {w : AW}
/-- a comparison taken in: 0 eq, 1 ne, 2 lt, 3 ge, 4 gt, 5 le -/
noncomputable def ic (c : Nat) (x y : Int) : Bool := match c with
  | 0 => decide (x = y)
  | 1 => decide (¬ x = y)
  | 2 => decide (x < y)
  | 3 => decide (y ≤ x)
  | 4 => decide (y < x)
  | _ => decide (x ≤ y)
noncomputable def br (c : Nat) (n : Nat) (lv : List (Nat × AV)) (st : List AV) (iv : IV) (ex : AX) (k1 : Option Nat) (o1 : Int) (k2 : Option Nat) (o2 : Int) : Option AS := match c with
  | 0 => match br_le iv ex.2.1 k1 o1 k2 o2 with
    | some (iv, cs) => match br_le iv cs k2 o2 k1 o1 with
      | some (iv, cs) => some (n, lv, st, iv, ex.1, cs, ex.2.2)
      | none => none
    | none => none
  | 1 => match br_ne iv k1 o1 k2 o2 with
    | some iv => some (n, lv, st, iv, ex)
    | none => none
  | 2 => match br_le iv ex.2.1 k1 (o1 + 1) k2 o2 with
    | some (iv, cs) => some (n, lv, st, iv, ex.1, cs, ex.2.2)
    | none => none
  | 3 => match br_le iv ex.2.1 k2 o2 k1 o1 with
    | some (iv, cs) => some (n, lv, st, iv, ex.1, cs, ex.2.2)
    | none => none
  | 4 => match br_le iv ex.2.1 k2 (o2 + 1) k1 o1 with
    | some (iv, cs) => some (n, lv, st, iv, ex.1, cs, ex.2.2)
    | none => none
  | _ => match br_le iv ex.2.1 k1 o1 k2 o2 with
    | some (iv, cs) => some (n, lv, st, iv, ex.1, cs, ex.2.2)
    | none => none
theorem br_ok {E : AEnv} {ρ : Nat → Int} {pc n : Nat} {lv : List (Nat × AV)} {st : List AV} {iv : IV} {ex : AX} {pc' : Nat} {cl : List (Nat × Value)} {cs : List Value} {W : pm_H × Nat × Nat} {k1 k2 : Option Nat} {o1 o2 x y : Int} (c : Nat) (g : as_r w E ρ (pc, lv, st, iv, ex) (pc', cl, cs, W)) (hx : av_ev iv.length ρ k1 o1 x) (hy : av_ev iv.length ρ k2 o2 y) (h : ic c x y = true) :
    ∃ B, br c n lv st iv ex k1 o1 k2 o2 = some B ∧ as_r w E ρ B (n, cl, cs, W) := by
  have base : ∀ iv' cs', iv'.length = iv.length → ia_g E ρ iv' → (∀ c ∈ cs', con_g iv.length ρ c) → as_r w E ρ (n, lv, st, iv', ex.1, cs', ex.2.2) (n, cl, cs, W) := by
    intro iv' cs' hl hi hc
    obtain ⟨q1, q2, q3, q4, q5⟩ := as_iv g hl hi
    exact ⟨q1, rfl, q3, q4, q5.1, q5.2.1, (by show ∀ c ∈ cs', con_g iv'.length ρ c; rw [hl]; exact hc), q5.2.2.2⟩
  obtain ⟨g1, g2, g3, g4, g5⟩ := id g
  dsimp only at g1 g5
  have one : ∀ {ka kb : Option Nat} {oa ob u v : Int}, av_ev iv.length ρ ka oa u → av_ev iv.length ρ kb ob v → u ≤ v → ∃ q : IV × List Con, br_le iv ex.2.1 ka oa kb ob = some q ∧ as_r w E ρ (n, lv, st, q.1, ex.1, q.2, ex.2.2) (n, cl, cs, W) := by
    intro ka kb oa ob u v hu hv huv
    obtain ⟨q, e, l, i, cc⟩ := br_le_ok g1 g5.2.2.1 hu hv huv
    exact ⟨q, e, base q.1 q.2 l i cc⟩
  match c, h with
  | 0, h =>
    have h : x = y := of_decide_eq_true h
    obtain ⟨q, e, l, i, cc⟩ := br_le_ok g1 g5.2.2.1 hx hy (by omega)
    obtain ⟨q2, e2, l2, i2, cc2⟩ := br_le_ok (k1 := k2) (k2 := k1) (o1 := o2) (o2 := o1) (x := y) (y := x) i (by rw [l]; exact cc) (by rw [l]; exact hy) (by rw [l]; exact hx) (by omega)
    unfold br
    rw [e]
    simp only [e2]
    exact ⟨_, rfl, base q2.1 q2.2 (by omega) i2 (by rw [l] at cc2; exact cc2)⟩
  | 1, h =>
    have h : ¬ x = y := of_decide_eq_true h
    obtain ⟨q, e, l, i⟩ := br_ne_ok g1 hx hy h
    unfold br
    rw [e]
    obtain ⟨q1, q2, q3, q4, q5⟩ := as_iv g l i
    exact ⟨_, rfl, q1, rfl, q3, q4, q5⟩
  | 2, h =>
    have h : x < y := of_decide_eq_true h
    obtain ⟨q, e, r⟩ := one (av_ev_add (d := 1) hx) hy (by omega)
    unfold br
    rw [e]
    exact ⟨_, rfl, r⟩
  | 3, h =>
    have h : y ≤ x := of_decide_eq_true h
    obtain ⟨q, e, r⟩ := one hy hx (by omega)
    unfold br
    rw [e]
    exact ⟨_, rfl, r⟩
  | 4, h =>
    have h : y < x := of_decide_eq_true h
    obtain ⟨q, e, r⟩ := one (av_ev_add (d := 1) hy) hx (by omega)
    unfold br
    rw [e]
    exact ⟨_, rfl, r⟩
  | c + 5, h =>
    have h : x ≤ y := of_decide_eq_true h
    obtain ⟨q, e, r⟩ := one hx hy (by omega)
    refine ⟨(n, lv, st, q.1, ex.1, q.2, ex.2.2), ?_, r⟩
    show (match br_le iv ex.2.1 k1 o1 k2 o2 with
      | some (iv, cs) => some (n, lv, st, iv, ex.1, cs, ex.2.2)
      | none => none) = _
    rw [e]
/-- the other branch -/
noncomputable def ic_not (c : Nat) : Nat := match c with
  | 0 => 1
  | 1 => 0
  | 2 => 3
  | 3 => 2
  | 4 => 5
  | _ => 4
theorem ic_not_ok {c : Nat} {x y : Int} (h : ic c x y = false) : ic (ic_not c) x y = true := by
  match c, h with
  | 0, h => have h : ¬ x = y := of_decide_eq_false h; exact decide_eq_true h
  | 1, h => have h : ¬ ¬ x = y := of_decide_eq_false h; exact decide_eq_true (show x = y by omega)
  | 2, h => have h : ¬ x < y := of_decide_eq_false h; exact decide_eq_true (show y ≤ x by omega)
  | 3, h => have h : ¬ y ≤ x := of_decide_eq_false h; exact decide_eq_true (show x < y by omega)
  | 4, h => have h : ¬ y < x := of_decide_eq_false h; exact decide_eq_true (show x ≤ y by omega)
  | c + 5, h => have h : ¬ x ≤ y := of_decide_eq_false h; exact decide_eq_true (show y < x by omega)
noncomputable def a_if2 (c t n : Nat) : AS → Option (List AS) := fun A => match A.2.2.1 with
  | .inl (k2, o2) :: .inl (k1, o1) :: st => some ((br c t A.2.1 st A.2.2.2.1 A.2.2.2.2 k1 o1 k2 o2).toList ++ (br (ic_not c) n A.2.1 st A.2.2.2.1 A.2.2.2.2 k1 o1 k2 o2).toList)
  | _ => none
theorem a_if2_ok {q : Int32 → Int32 → Bool} (c t n : Nat) (hq : ∀ x y : Int32, q x y = ic c x.toInt y.toInt) : ai_ok w (s_icmp q t n) (a_if2 c t n) := by
  rintro E ⟨pc, lv, st, iv, ex⟩ ⟨pc', cl, cs, W⟩ As ⟨ρ, g1, g2, g3, g4, g5⟩ h
  simp only [a_if2] at h
  split at h
  · rename_i k2 o2 k1 o1 st'
    cases h
    obtain ⟨v, cs, rfl, ha, hr0⟩ := f2_cons g4
    obtain ⟨u, cs, rfl, hc, hr⟩ := f2_cons hr0
    obtain ⟨y, rfl, ha⟩ := av_int ha
    obtain ⟨x, rfl, hc⟩ := av_int hc
    cases hb : ic c x.toInt y.toInt with
    | true =>
      obtain ⟨B, e1, e2⟩ := br_ok (n := t) (pc := pc) (pc' := pc') (st := st') (cs := cs) c ⟨g1, g2, g3, hr, g5⟩ hc ha hb
      refine ⟨(t, cl, cs, W), by simp only [s_icmp, hq, hb, cond_true], B, ?_, ρ, e2⟩
      rw [e1]
      exact List.mem_append_left _ (List.mem_singleton_self _)
    | false =>
      obtain ⟨B, e1, e2⟩ := br_ok (n := n) (pc := pc) (pc' := pc') (st := st') (cs := cs) (ic_not c) ⟨g1, g2, g3, hr, g5⟩ hc ha (ic_not_ok hb)
      refine ⟨(n, cl, cs, W), by simp only [s_icmp, hq, hb, cond_false], B, ?_, ρ, e2⟩
      rw [e1]
      exact List.mem_append_right _ (List.mem_singleton_self _)
  · cases h
end AIB
end
