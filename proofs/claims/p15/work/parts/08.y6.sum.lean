/-! THE EXECUTOR (second writing), part 6: sums, longs, branches -/
section AIQ
variable {w : AW}
theorem av_ev_add {n : Nat} {ρ : Nat → Int} {k : Option Nat} {o v d : Int} (h : av_ev n ρ k o v) : av_ev n ρ k (o + d) (v + d) := by
  cases k with
  | none => exact congrArg (· + d) h
  | some k => exact ⟨h.1, by have := h.2; show v + d = ρ k + (o + d); omega⟩
theorem av_ev_sub {n : Nat} {ρ : Nat → Int} {k : Option Nat} {o v d : Int} (h : av_ev n ρ k o v) : av_ev n ρ k (o - d) (v - d) := by
  rw [show o - d = o + -d by omega, show v - d = v + -d by omega]
  exact av_ev_add h
/-- the symbol of a sum that is known -/
noncomputable def con_sum (cs : List Con) (a b : Nat) : Option Nat := match cs with
  | [] => none
  | .inl (s, p, q) :: l => bif (Nat.beq p a && Nat.beq q b) || (Nat.beq p b && Nat.beq q a) then some s else con_sum l a b
  | _ :: l => con_sum l a b
theorem con_sum_ok {n : Nat} {ρ : Nat → Int} {a b s : Nat} : ∀ {cs : List Con}, (∀ c ∈ cs, con_g n ρ c) → con_sum cs a b = some s → s < n ∧ ρ s = ρ a + ρ b
  | [], _, h => by cases h
  | .inr _ :: l, hc, h => con_sum_ok (cs := l) (fun c hm => hc c (List.mem_cons_of_mem _ hm)) h
  | .inl (s', p, q) :: l, hc, h => by
    unfold con_sum at h
    cases hb : ((Nat.beq p a && Nat.beq q b) || (Nat.beq p b && Nat.beq q a)) with
    | false =>
      rw [hb] at h
      exact con_sum_ok (cs := l) (fun c hm => hc c (List.mem_cons_of_mem _ hm)) h
    | true =>
      rw [hb] at h
      cases h
      obtain ⟨h1, h2, h3, h4⟩ := hc _ List.mem_cons_self
      simp only [Bool.or_eq_true, Bool.and_eq_true] at hb
      rcases hb with ⟨e1, e2⟩ | ⟨e1, e2⟩
      · have e1 := Nat.eq_of_beq_eq_true e1
        have e2 := Nat.eq_of_beq_eq_true e2
        subst e1; subst e2
        exact ⟨h1, h4⟩
      · have e1 := Nat.eq_of_beq_eq_true e1
        have e2 := Nat.eq_of_beq_eq_true e2
        subst e1; subst e2
        exact ⟨h1, by omega⟩
/-- the symbol of a difference that is known -/
noncomputable def con_dif (cs : List Con) (a b : Nat) : Option Nat := match cs with
  | [] => none
  | .inl (s, p, q) :: l => bif Nat.beq s a && Nat.beq q b then some p else (bif Nat.beq s a && Nat.beq p b then some q else con_dif l a b)
  | _ :: l => con_dif l a b
theorem con_dif_ok {n : Nat} {ρ : Nat → Int} {a b s : Nat} : ∀ {cs : List Con}, (∀ c ∈ cs, con_g n ρ c) → con_dif cs a b = some s → s < n ∧ ρ s = ρ a - ρ b
  | [], _, h => by cases h
  | .inr _ :: l, hc, h => con_dif_ok (cs := l) (fun c hm => hc c (List.mem_cons_of_mem _ hm)) h
  | .inl (s', p, q) :: l, hc, h => by
    unfold con_dif at h
    obtain ⟨h1, h2, h3, h4⟩ := hc _ List.mem_cons_self
    cases hb : (Nat.beq s' a && Nat.beq q b) with
    | true =>
      rw [hb] at h
      cases h
      rw [Bool.and_eq_true] at hb
      have e1 := Nat.eq_of_beq_eq_true hb.1
      have e2 := Nat.eq_of_beq_eq_true hb.2
      subst e1; subst e2
      exact ⟨h2, by omega⟩
    | false =>
      rw [hb, cond_false] at h
      cases hd : (Nat.beq s' a && Nat.beq p b) with
      | true =>
        rw [hd] at h
        cases h
        rw [Bool.and_eq_true] at hd
        have e1 := Nat.eq_of_beq_eq_true hd.1
        have e2 := Nat.eq_of_beq_eq_true hd.2
        subst e1; subst e2
        exact ⟨h3, by omega⟩
      | false =>
        rw [hd] at h
        exact con_dif_ok (cs := l) (fun c hm => hc c (List.mem_cons_of_mem _ hm)) h
/-- bounds of a difference by relations -/
noncomputable def con_lo (cs : List Con) (a b : Nat) (lo : Int) : Int := match cs with
  | [] => lo
  | .inr (p, q, c) :: l => con_lo l a b (bif Nat.beq p b && Nat.beq q a then max lo (-c) else lo)
  | _ :: l => con_lo l a b lo
noncomputable def con_hi (cs : List Con) (a b : Nat) (hi : Int) : Int := match cs with
  | [] => hi
  | .inr (p, q, c) :: l => con_hi l a b (bif Nat.beq p a && Nat.beq q b then min hi c else hi)
  | _ :: l => con_hi l a b hi
theorem con_lo_ok {n : Nat} {ρ : Nat → Int} {a b : Nat} : ∀ {cs : List Con} {lo : Int}, (∀ c ∈ cs, con_g n ρ c) → lo ≤ ρ a - ρ b → con_lo cs a b lo ≤ ρ a - ρ b
  | [], _, _, h => h
  | .inl _ :: l, _, hc, h => con_lo_ok (cs := l) (fun c hm => hc c (List.mem_cons_of_mem _ hm)) h
  | .inr (p, q, c) :: l, lo, hc, h => by
    refine con_lo_ok (cs := l) (fun c hm => hc c (List.mem_cons_of_mem _ hm)) ?_
    cases hb : (Nat.beq p b && Nat.beq q a) with
    | false => exact h
    | true =>
      rw [Bool.and_eq_true] at hb
      have e1 := Nat.eq_of_beq_eq_true hb.1
      have e2 := Nat.eq_of_beq_eq_true hb.2
      subst e1; subst e2
      have := (hc _ List.mem_cons_self).2.2
      show max lo (-c) ≤ _
      omega
theorem con_hi_ok {n : Nat} {ρ : Nat → Int} {a b : Nat} : ∀ {cs : List Con} {hi : Int}, (∀ c ∈ cs, con_g n ρ c) → ρ a - ρ b ≤ hi → ρ a - ρ b ≤ con_hi cs a b hi
  | [], _, _, h => h
  | .inl _ :: l, _, hc, h => con_hi_ok (cs := l) (fun c hm => hc c (List.mem_cons_of_mem _ hm)) h
  | .inr (p, q, c) :: l, hi, hc, h => by
    refine con_hi_ok (cs := l) (fun c hm => hc c (List.mem_cons_of_mem _ hm)) ?_
    cases hb : (Nat.beq p a && Nat.beq q b) with
    | false => exact h
    | true =>
      rw [Bool.and_eq_true] at hb
      have e1 := Nat.eq_of_beq_eq_true hb.1
      have e2 := Nat.eq_of_beq_eq_true hb.2
      subst e1; subst e2
      have := (hc _ List.mem_cons_self).2.2
      show _ ≤ min hi c
      omega
/-- a fresh symbol that stands in a sum -/
noncomputable def a_pc (n : Nat) (lv : List (Nat × AV)) (st : List AV) (iv : IV) (ex : AX) (lo hi o : Int) (c : Nat → Con) : AS := bif decide (lo = hi) then (n, lv, .inl (none, lo + o) :: st, iv, ex) else (n, lv, .inl (some iv.length, o) :: st, iv ++ [(lo, hi)], ex.1, c iv.length :: ex.2.1, ex.2.2)
theorem a_pc_ok {E : AEnv} {ρ : Nat → Int} {pc n : Nat} {lv : List (Nat × AV)} {st : List AV} {iv : IV} {ex : AX} {pc' : Nat} {cl : List (Nat × Value)} {cs : List Value} {W : pm_H × Nat × Nat} {v : Int32} {lo hi o : Int} {c : Nat → Con} (g : as_r w E ρ (pc, lv, st, iv, ex) (pc', cl, cs, W)) (h1 : lo + o ≤ v.toInt) (h2 : v.toInt ≤ hi + o)
    (hc : ∀ ρ' : Nat → Int, (∀ q, q < iv.length → ρ' q = ρ q) → ρ' iv.length + o = v.toInt → con_g (iv.length + 1) ρ' (c iv.length)) : as_g w E (a_pc n lv st iv ex lo hi o c) (n, cl, .int v :: cs, W) := by
  unfold a_pc
  cases hb : decide (lo = hi) with
  | true =>
    have hb := of_decide_eq_true hb
    obtain ⟨g1, g2, g3, g4, g5⟩ := g
    exact ⟨ρ, g1, rfl, g3, ⟨(by show v.toInt = lo + o; omega), g4⟩, g5⟩
  | false =>
    obtain ⟨⟨g1, g2, g3, g4, g5⟩, e⟩ := as_grow (v := v.toInt - o) (lo := lo) (hi := hi) g (by omega) (by omega)
    have hn : (iv ++ [(lo, hi)]).length = iv.length + 1 := by rw [List.length_append]; rfl
    have e2 := e.2
    refine ⟨_, g1, rfl, g3, ⟨⟨e.1, by omega⟩, g4⟩, g5.1, g5.2.1, ?_, g5.2.2.2⟩
    intro q hq
    cases List.mem_cons.mp hq with
    | inl e' =>
      subst e'
      show con_g (iv ++ [(lo, hi)]).length _ _
      rw [hn]
      exact hc _ iv_ext_old (by omega)
    | inr hq => exact g5.2.2.1 q hq
noncomputable def a_addc (n : Nat) (lv : List (Nat × AV)) (st : List AV) (iv : IV) (ex : AX) (k1 : Option Nat) (o1 : Int) (k2 : Option Nat) (o2 : Int) : Option AS := match iv_rng iv k1 o1, iv_rng iv k2 o2 with
  | some (l1, u1), some (l2, u2) => bif ai_in (l1 + l2) (u1 + u2) then (match k2 with
      | none => some (n, lv, .inl (k1, o1 + o2) :: st, iv, ex)
      | some b => match k1 with
      | none => some (n, lv, .inl (some b, o1 + o2) :: st, iv, ex)
      | some a => match con_sum ex.2.1 a b with
        | some s => some (n, lv, .inl (some s, o1 + o2) :: st, iv, ex)
        | none => some (a_pc n lv st iv ex (l1 + l2 - o1 - o2) (u1 + u2 - o1 - o2) (o1 + o2) (fun s => .inl (s, a, b)))) else some (a_pi n lv st iv ex (-2147483648) 2147483647)
  | _, _ => none
theorem a_addc_ok {E : AEnv} {ρ : Nat → Int} {pc n : Nat} {lv : List (Nat × AV)} {st : List AV} {iv : IV} {ex : AX} {pc' : Nat} {cl : List (Nat × Value)} {cs : List Value} {W : pm_H × Nat × Nat} {x y : Int32} {k1 k2 : Option Nat} {o1 o2 : Int} {A : AS} (g : as_r w E ρ (pc, lv, st, iv, ex) (pc', cl, cs, W)) (hx : av_ev iv.length ρ k1 o1 x.toInt) (hy : av_ev iv.length ρ k2 o2 y.toInt)
    (h : a_addc n lv st iv ex k1 o1 k2 o2 = some A) : as_g w E A (n, cl, .int (x + y) :: cs, W) := by
  obtain ⟨g1, g2, g3, g4, g5⟩ := id g
  dsimp only at g1 g3 g4 g5
  unfold a_addc at h
  split at h
  · rename_i l1 u1 l2 u2 r1 r2
    have b1 := iv_rng_ok g1 hx r1
    have b2 := iv_rng_ok g1 hy r2
    cases hb : ai_in (l1 + l2) (u1 + u2) with
    | false =>
      rw [hb] at h
      cases h
      exact a_pi_ok g (ai_lo _) (ai_hi _)
    | true =>
      rw [hb, cond_true] at h
      have hi := ai_in_ok hb
      have hs : (x + y).toInt = x.toInt + y.toInt := ai_add (by omega) (by omega)
      split at h
      · cases h
        have hy : y.toInt = o2 := hy
        refine ⟨ρ, g1, rfl, g3, ⟨?_, g4⟩, g5⟩
        show av_ev iv.length ρ k1 (o1 + o2) (x + y).toInt
        rw [hs, hy]
        exact av_ev_add hx
      rename_i b
      split at h
      · cases h
        have hx : x.toInt = o1 := hx
        refine ⟨ρ, g1, rfl, g3, ⟨?_, g4⟩, g5⟩
        show av_ev iv.length ρ (some b) (o1 + o2) (x + y).toInt
        rw [hs, hx, Int.add_comm o1, Int.add_comm o1]
        exact av_ev_add hy
      · rename_i a
        split at h
        · rename_i s hss
          cases h
          obtain ⟨q1, q2⟩ := con_sum_ok g5.2.2.1 hss
          refine ⟨ρ, g1, rfl, g3, ⟨⟨q1, ?_⟩, g4⟩, g5⟩
          have := hx.2
          have := hy.2
          omega
        · cases h
          refine a_pc_ok g (by omega) (by omega) (fun ρ' e1 e2 => ?_)
          have ha := hx.1
          have hb := hy.1
          refine ⟨Nat.lt_succ_self _, Nat.lt_succ_of_lt ha, Nat.lt_succ_of_lt hb, ?_⟩
          rw [e1 a ha, e1 b hb]
          have := hx.2
          have := hy.2
          omega
  · cases h
noncomputable def a_subc (n : Nat) (lv : List (Nat × AV)) (st : List AV) (iv : IV) (ex : AX) (k1 : Option Nat) (o1 : Int) (k2 : Option Nat) (o2 : Int) : Option AS := match iv_rng iv k1 o1, iv_rng iv k2 o2 with
  | some (l1, u1), some (l2, u2) => bif ai_in (l1 - u2) (u1 - l2) then (match k2 with
      | none => some (n, lv, .inl (k1, o1 - o2) :: st, iv, ex)
      | some b => match k1 with
      | none => some (a_pi n lv st iv ex (l1 - u2) (u1 - l2))
      | some a => bif Nat.beq a b then some (n, lv, .inl (none, o1 - o2) :: st, iv, ex) else match con_dif ex.2.1 a b with
        | some s => some (n, lv, .inl (some s, o1 - o2) :: st, iv, ex)
        | none => some (a_pc n lv st iv ex (con_lo ex.2.1 a b (l1 - u2 - o1 + o2)) (con_hi ex.2.1 a b (u1 - l2 - o1 + o2)) (o1 - o2) (fun s => .inl (a, s, b)))) else some (a_pi n lv st iv ex (-2147483648) 2147483647)
  | _, _ => none
theorem a_subc_ok {E : AEnv} {ρ : Nat → Int} {pc n : Nat} {lv : List (Nat × AV)} {st : List AV} {iv : IV} {ex : AX} {pc' : Nat} {cl : List (Nat × Value)} {cs : List Value} {W : pm_H × Nat × Nat} {x y : Int32} {k1 k2 : Option Nat} {o1 o2 : Int} {A : AS} (g : as_r w E ρ (pc, lv, st, iv, ex) (pc', cl, cs, W)) (hx : av_ev iv.length ρ k1 o1 x.toInt) (hy : av_ev iv.length ρ k2 o2 y.toInt)
    (h : a_subc n lv st iv ex k1 o1 k2 o2 = some A) : as_g w E A (n, cl, .int (x - y) :: cs, W) := by
  obtain ⟨g1, g2, g3, g4, g5⟩ := id g
  dsimp only at g1 g3 g4 g5
  unfold a_subc at h
  split at h
  · rename_i l1 u1 l2 u2 r1 r2
    have b1 := iv_rng_ok g1 hx r1
    have b2 := iv_rng_ok g1 hy r2
    cases hb : ai_in (l1 - u2) (u1 - l2) with
    | false =>
      rw [hb] at h
      cases h
      exact a_pi_ok g (ai_lo _) (ai_hi _)
    | true =>
      rw [hb, cond_true] at h
      have hi := ai_in_ok hb
      have hs : (x - y).toInt = x.toInt - y.toInt := ai_sub (by omega) (by omega)
      split at h
      · cases h
        have hy : y.toInt = o2 := hy
        refine ⟨ρ, g1, rfl, g3, ⟨?_, g4⟩, g5⟩
        show av_ev iv.length ρ k1 (o1 - o2) (x - y).toInt
        rw [hs, hy]
        exact av_ev_sub hx
      rename_i b
      split at h
      · cases h
        exact a_pi_ok g (by omega) (by omega)
      · rename_i a
        have hx2 := hx.2
        have hy2 := hy.2
        cases hab : Nat.beq a b with
        | true =>
          rw [hab] at h
          cases h
          have hab := Nat.eq_of_beq_eq_true hab
          subst hab
          refine ⟨ρ, g1, rfl, g3, ⟨?_, g4⟩, g5⟩
          show (x - y).toInt = o1 - o2
          omega
        | false =>
          rw [hab, cond_false] at h
          split at h
          · rename_i s hss
            cases h
            obtain ⟨q1, q2⟩ := con_dif_ok g5.2.2.1 hss
            refine ⟨ρ, g1, rfl, g3, ⟨⟨q1, ?_⟩, g4⟩, g5⟩
            omega
          · cases h
            have w1 := con_lo_ok (a := a) (b := b) (lo := l1 - u2 - o1 + o2) g5.2.2.1 (by omega)
            have w2 := con_hi_ok (a := a) (b := b) (hi := u1 - l2 - o1 + o2) g5.2.2.1 (by omega)
            refine a_pc_ok g (by omega) (by omega) (fun ρ' e1 e2 => ?_)
            have ha := hx.1
            have hb := hy.1
            refine ⟨Nat.lt_succ_of_lt ha, Nat.lt_succ_self _, Nat.lt_succ_of_lt hb, ?_⟩
            rw [e1 a ha, e1 b hb]
            omega
  · cases h
noncomputable def a_add (n : Nat) : AS → Option (List AS) := fun A => match A.2.2.1 with
  | .inl (k2, o2) :: .inl (k1, o1) :: st => (a_addc n A.2.1 st A.2.2.2.1 A.2.2.2.2 k1 o1 k2 o2).map (fun B => [B])
  | _ => none
theorem a_add_ok (n : Nat) : ai_ok w (s_bin (fun x y => x + y) n) (a_add n) := by
  rintro E ⟨pc, lv, st, iv, ex⟩ ⟨pc', cl, cs, W⟩ As ⟨ρ, g1, g2, g3, g4, g5⟩ h
  simp only [a_add] at h
  split at h
  · rename_i k2 o2 k1 o1 st'
    obtain ⟨A, hA, rfl⟩ := Option.map_eq_some_iff.mp h
    obtain ⟨v, cs, rfl, ha, hr0⟩ := f2_cons g4
    obtain ⟨u, cs, rfl, hc, hr⟩ := f2_cons hr0
    obtain ⟨y, rfl, ha⟩ := av_int ha
    obtain ⟨x, rfl, hc⟩ := av_int hc
    exact ⟨(n, cl, .int (x + y) :: cs, W), rfl, _, List.mem_singleton_self _, a_addc_ok (st := st') (pc := pc) (pc' := pc') ⟨g1, g2, g3, hr, g5⟩ hc ha hA⟩
  · cases h
noncomputable def a_sub (n : Nat) : AS → Option (List AS) := fun A => match A.2.2.1 with
  | .inl (k2, o2) :: .inl (k1, o1) :: st => (a_subc n A.2.1 st A.2.2.2.1 A.2.2.2.2 k1 o1 k2 o2).map (fun B => [B])
  | _ => none
theorem a_sub_ok (n : Nat) : ai_ok w (s_bin (fun x y => x - y) n) (a_sub n) := by
  rintro E ⟨pc, lv, st, iv, ex⟩ ⟨pc', cl, cs, W⟩ As ⟨ρ, g1, g2, g3, g4, g5⟩ h
  simp only [a_sub] at h
  split at h
  · rename_i k2 o2 k1 o1 st'
    obtain ⟨A, hA, rfl⟩ := Option.map_eq_some_iff.mp h
    obtain ⟨v, cs, rfl, ha, hr0⟩ := f2_cons g4
    obtain ⟨u, cs, rfl, hc, hr⟩ := f2_cons hr0
    obtain ⟨y, rfl, ha⟩ := av_int ha
    obtain ⟨x, rfl, hc⟩ := av_int hc
    exact ⟨(n, cl, .int (x - y) :: cs, W), rfl, _, List.mem_singleton_self _, a_subc_ok (st := st') (pc := pc) (pc' := pc') ⟨g1, g2, g3, hr, g5⟩ hc ha hA⟩
  · cases h
/-- a local counts on -/
noncomputable def a_inc (i : Nat) (d : Int32) (n : Nat) : AS → Option (List AS) := fun A => match as_get A.2.1 i with
  | some (.inl (k, o)) => match iv_rng A.2.2.2.1 k o with
    | some (lo, hi) => bif kp1 A.2.2.2.2.2.2.2.2 A.2.1 i then (bif ai_in (lo + d.toInt) (hi + d.toInt) then some [(n, as_put1 i (.inl (k, (o + d.toInt))) A.2.1, A.2.2.1, A.2.2.2)] else some [(n, as_put1 i (.inl (some A.2.2.2.1.length, 0)) A.2.1, A.2.2.1, A.2.2.2.1 ++ [(-2147483648, 2147483647)], A.2.2.2.2)]) else none
    | none => none
  | _ => none
theorem a_inc_ok (i : Nat) (d : Int32) (n : Nat) : ai_ok w (s_inc i d n) (a_inc i d n) := by
  rintro E ⟨pc, lv, st, iv, ex⟩ ⟨pc', cl, cs, W⟩ As ⟨ρ, g⟩ h
  obtain ⟨g1, g2, g3, g4, g5⟩ := id g
  simp only [a_inc] at h
  split at h
  · rename_i k o e
    split at h
    · rename_i lo hi er
      cases hk : kp1 ex.2.2.2.2 lv i with
      | false => rw [hk] at h; cases h
      | true =>
        rw [hk, cond_true] at h
        obtain ⟨v, e1, e2⟩ := g3 i _ (as_get_in e)
        obtain ⟨x, rfl, e2⟩ := av_int e2
        have hstep : s_inc i d n (pc', cl, cs, W) = some (n, pm_put1 i (.int (x + d)) cl, cs, W) := by
          simp only [s_inc]; simp only at e1; rw [e1]
        cases hb : ai_in (lo + d.toInt) (hi + d.toInt) with
        | false =>
          rw [hb] at h
          cases h
          obtain ⟨⟨p1, p2, p3, p4, p5⟩, q⟩ := as_grow (v := (x + d).toInt) (lo := -2147483648) (hi := 2147483647) g (ai_lo _) (ai_hi _)
          exact ⟨_, hstep, _, List.mem_singleton_self _, _, p1, rfl, as_put1_ok p3 q, p4, ex_put1 p3 hk p5⟩
        | true =>
          rw [hb] at h
          cases h
          have hr := iv_rng_ok g1 e2 er
          have hi2 := ai_in_ok hb
          have hx : (x + d).toInt = x.toInt + d.toInt := ai_add (by omega) (by omega)
          refine ⟨_, hstep, _, List.mem_singleton_self _, ρ, g1, rfl, as_put1_ok g3 ?_, g4, ex_put1 g3 hk g5⟩
          show av_ev iv.length ρ k (o + d.toInt) (x + d).toInt
          rw [hx]
          exact av_ev_add e2
    · cases h
  · cases h
end AIQ
