section
section AIQ
variable {w : AW}
theorem a_pc_ok {E : AEnv} {ρ : Nat → Int} {pc n : Nat} {lv : List (Nat × AV)} {st : List AV} {iv : IV} {ex : AX} {pc' : Nat} {cl : List (Nat × Value)} {cs : List Value} {W : pm_H × Nat × Nat} {v : Int32} {lo hi o : Int} {c : Nat → Con} (g : as_r w E ρ (pc, lv, st, iv, ex) (pc', cl, cs, W)) (h1 : lo + o ≤ v.toInt) (h2 : v.toInt ≤ hi + o)
    (hc : ∀ ρ' : Nat → Int, (∀ q, q < iv.length → ρ' q = ρ q) → ρ' iv.length + o = v.toInt → con_g (iv.length + 1) ρ' (c iv.length)) : as_g w E (a_pc n lv st iv ex lo hi o c) (n, cl, .int v :: cs, W) := by
  unfold a_pc
  cases hb : decide (lo = hi) with
  | true =>
    have hb := of_decide_eq_true hb
    obtain ⟨g1, g2, g3, g4, g5⟩ := g
    exact ⟨ρ, g1, rfl, g3, ⟨(by show v.toInt = lo + o; omega), g4⟩, g5⟩
  | false =>
    obtain ⟨⟨g1, g2, g3, g4, g5⟩, e⟩ := as_grow (v := v.toInt - o) (lo := lo) (hi := hi) g (by omega) (by omega)
    have hn : (iv ++ [(lo, hi)]).length = iv.length + 1 := by rw [List.length_append]; rfl
    have e2 := e.2
    refine ⟨_, g1, rfl, g3, ⟨⟨e.1, by omega⟩, g4⟩, g5.1, g5.2.1, ?_, g5.2.2.2⟩
    intro q hq
    cases List.mem_cons.mp hq with
    | inl e' =>
      subst e'
      show con_g (iv ++ [(lo, hi)]).length _ _
      rw [hn]
      exact hc _ iv_ext_old (by omega)
    | inr hq => exact g5.2.2.1 q hq
noncomputable def a_addc (n : Nat) (lv : List (Nat × AV)) (st : List AV) (iv : IV) (ex : AX) (k1 : Option Nat) (o1 : Int) (k2 : Option Nat) (o2 : Int) : Option AS := match iv_rng iv k1 o1, iv_rng iv k2 o2 with
  | some (l1, u1), some (l2, u2) => bif ai_in (l1 + l2) (u1 + u2) then (match k2 with
      | none => some (n, lv, .inl (k1, o1 + o2) :: st, iv, ex)
      | some b => match k1 with
      | none => some (n, lv, .inl (some b, o1 + o2) :: st, iv, ex)
      | some a => match con_sum ex.2.1 a b with
        | some s => some (n, lv, .inl (some s, o1 + o2) :: st, iv, ex)
        | none => some (a_pc n lv st iv ex (l1 + l2 - o1 - o2) (u1 + u2 - o1 - o2) (o1 + o2) (fun s => .inl (s, a, b)))) else some (a_pi n lv st iv ex (-2147483648) 2147483647)
  | _, _ => none
theorem a_addc_ok {E : AEnv} {ρ : Nat → Int} {pc n : Nat} {lv : List (Nat × AV)} {st : List AV} {iv : IV} {ex : AX} {pc' : Nat} {cl : List (Nat × Value)} {cs : List Value} {W : pm_H × Nat × Nat} {x y : Int32} {k1 k2 : Option Nat} {o1 o2 : Int} {A : AS} (g : as_r w E ρ (pc, lv, st, iv, ex) (pc', cl, cs, W)) (hx : av_ev iv.length ρ k1 o1 x.toInt) (hy : av_ev iv.length ρ k2 o2 y.toInt)
    (h : a_addc n lv st iv ex k1 o1 k2 o2 = some A) : as_g w E A (n, cl, .int (x + y) :: cs, W) := by
  obtain ⟨g1, g2, g3, g4, g5⟩ := id g
  dsimp only at g1 g3 g4 g5
  unfold a_addc at h
  split at h
  · rename_i l1 u1 l2 u2 r1 r2
    have b1 := iv_rng_ok g1 hx r1
    have b2 := iv_rng_ok g1 hy r2
    cases hb : ai_in (l1 + l2) (u1 + u2) with
    | false =>
      rw [hb] at h
      cases h
      exact a_pi_ok g (ai_lo _) (ai_hi _)
    | true =>
      rw [hb, cond_true] at h
      have hi := ai_in_ok hb
      have hs : (x + y).toInt = x.toInt + y.toInt := ai_add (by omega) (by omega)
      split at h
      · cases h
        have hy : y.toInt = o2 := hy
        refine ⟨ρ, g1, rfl, g3, ⟨?_, g4⟩, g5⟩
        show av_ev iv.length ρ k1 (o1 + o2) (x + y).toInt
        rw [hs, hy]
        exact av_ev_add hx
      rename_i b
      split at h
      · cases h
        have hx : x.toInt = o1 := hx
        refine ⟨ρ, g1, rfl, g3, ⟨?_, g4⟩, g5⟩
        show av_ev iv.length ρ (some b) (o1 + o2) (x + y).toInt
        rw [hs, hx, Int.add_comm o1, Int.add_comm o1]
        exact av_ev_add hy
      · rename_i a
        split at h
        · rename_i s hss
          cases h
          obtain ⟨q1, q2⟩ := con_sum_ok g5.2.2.1 hss
          refine ⟨ρ, g1, rfl, g3, ⟨⟨q1, ?_⟩, g4⟩, g5⟩
          have := hx.2
          have := hy.2
          omega
        · cases h
          refine a_pc_ok g (by omega) (by omega) (fun ρ' e1 e2 => ?_)
          have ha := hx.1
          have hb := hy.1
          refine ⟨Nat.lt_succ_self _, Nat.lt_succ_of_lt ha, Nat.lt_succ_of_lt hb, ?_⟩
          rw [e1 a ha, e1 b hb]
          have := hx.2
          have := hy.2
          omega
  · cases h
noncomputable def a_subc (n : Nat) (lv : List (Nat × AV)) (st : List AV) (iv : IV) (ex : AX) (k1 : Option Nat) (o1 : Int) (k2 : Option Nat) (o2 : Int) : Option AS := match iv_rng iv k1 o1, iv_rng iv k2 o2 with
  | some (l1, u1), some (l2, u2) => bif ai_in (l1 - u2) (u1 - l2) then (match k2 with
      | none => some (n, lv, .inl (k1, o1 - o2) :: st, iv, ex)
      | some b => match k1 with
      | none => some (a_pi n lv st iv ex (l1 - u2) (u1 - l2))
      | some a => bif Nat.beq a b then some (n, lv, .inl (none, o1 - o2) :: st, iv, ex) else match con_dif ex.2.1 a b with
        | some s => some (n, lv, .inl (some s, o1 - o2) :: st, iv, ex)
        | none => some (a_pc n lv st iv ex (con_lo ex.2.1 a b (l1 - u2 - o1 + o2)) (con_hi ex.2.1 a b (u1 - l2 - o1 + o2)) (o1 - o2) (fun s => .inl (a, s, b)))) else some (a_pi n lv st iv ex (-2147483648) 2147483647)
  | _, _ => none
theorem a_subc_ok {E : AEnv} {ρ : Nat → Int} {pc n : Nat} {lv : List (Nat × AV)} {st : List AV} {iv : IV} {ex : AX} {pc' : Nat} {cl : List (Nat × Value)} {cs : List Value} {W : pm_H × Nat × Nat} {x y : Int32} {k1 k2 : Option Nat} {o1 o2 : Int} {A : AS} (g : as_r w E ρ (pc, lv, st, iv, ex) (pc', cl, cs, W)) (hx : av_ev iv.length ρ k1 o1 x.toInt) (hy : av_ev iv.length ρ k2 o2 y.toInt)
    (h : a_subc n lv st iv ex k1 o1 k2 o2 = some A) : as_g w E A (n, cl, .int (x - y) :: cs, W) := by
  obtain ⟨g1, g2, g3, g4, g5⟩ := id g
  dsimp only at g1 g3 g4 g5
  unfold a_subc at h
  split at h
  · rename_i l1 u1 l2 u2 r1 r2
    have b1 := iv_rng_ok g1 hx r1
    have b2 := iv_rng_ok g1 hy r2
    cases hb : ai_in (l1 - u2) (u1 - l2) with
    | false =>
      rw [hb] at h
      cases h
      exact a_pi_ok g (ai_lo _) (ai_hi _)
    | true =>
      rw [hb, cond_true] at h
      have hi := ai_in_ok hb
      have hs : (x - y).toInt = x.toInt - y.toInt := ai_sub (by omega) (by omega)
      split at h
      · cases h
        have hy : y.toInt = o2 := hy
        refine ⟨ρ, g1, rfl, g3, ⟨?_, g4⟩, g5⟩
        show av_ev iv.length ρ k1 (o1 - o2) (x - y).toInt
        rw [hs, hy]
        exact av_ev_sub hx
      rename_i b
      split at h
      · cases h
        exact a_pi_ok g (by omega) (by omega)
      · rename_i a
        have hx2 := hx.2
        have hy2 := hy.2
        cases hab : Nat.beq a b with
        | true =>
          rw [hab] at h
          cases h
          have hab := Nat.eq_of_beq_eq_true hab
          subst hab
          refine ⟨ρ, g1, rfl, g3, ⟨?_, g4⟩, g5⟩
          show (x - y).toInt = o1 - o2
          omega
        | false =>
          rw [hab, cond_false] at h
          split at h
          · rename_i s hss
            cases h
            obtain ⟨q1, q2⟩ := con_dif_ok g5.2.2.1 hss
            refine ⟨ρ, g1, rfl, g3, ⟨⟨q1, ?_⟩, g4⟩, g5⟩
            omega
          · cases h
            have w1 := con_lo_ok (a := a) (b := b) (lo := l1 - u2 - o1 + o2) g5.2.2.1 (by omega)
            have w2 := con_hi_ok (a := a) (b := b) (hi := u1 - l2 - o1 + o2) g5.2.2.1 (by omega)
            refine a_pc_ok g (by omega) (by omega) (fun ρ' e1 e2 => ?_)
            have ha := hx.1
            have hb := hy.1
            refine ⟨Nat.lt_succ_of_lt ha, Nat.lt_succ_self _, Nat.lt_succ_of_lt hb, ?_⟩
            rw [e1 a ha, e1 b hb]
            omega
  · cases h
end AIQ
end
