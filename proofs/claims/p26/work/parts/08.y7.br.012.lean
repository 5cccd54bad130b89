section
/-- memory of a case is taken in -/
noncomputable def mem_take (iv : IV) (ex : AX) : MB → Option (IV × AX)
  | [] => some (iv, ex)
  | (q, lo, hi) :: m => match mem_get ex.1 q.1 q.2 with
    | some (.inl (k, o)) => match iv_nar iv k o lo hi with | some iv => mem_take iv ex m | none => none
    | some _ => mem_take iv ex m
    | none => bif decide (lo = hi) then mem_take iv (ex_note ex q.1 q.2 (.inl (none, lo))) m else mem_take (iv ++ [(lo, hi)]) (ex_note ex q.1 q.2 (.inl (some iv.length, 0))) m
theorem mem_take_ok {w : AW} {E : AEnv} {pc : Nat} {lv : List (Nat × AV)} {st : List AV} {σ : pm_S} : ∀ (m : MB) (iv : IV) (ex : AX) (ρ : Nat → Int), as_r w E ρ (pc, lv, st, iv, ex) σ → mm_g σ.2.2.2.1 m → ∃ q : IV × AX, mem_take iv ex m = some q ∧ as_g w E (pc, lv, st, q.1, q.2) σ
  | [], iv, ex, ρ, g, _ => ⟨(iv, ex), rfl, ρ, g⟩
  | ((a, k), lo, hi) :: m, iv, ex, ρ, g, hm => by
    obtain ⟨x, e1, e2, e3⟩ := hm _ List.mem_cons_self
    have hm' : mm_g σ.2.2.2.1 m := fun q hq => hm q (List.mem_cons_of_mem _ hq)
    dsimp only at e1 e2 e3
    unfold mem_take
    dsimp only
    split
    · rename_i kk o hg
      obtain ⟨v, f1, f2'⟩ := g.2.2.2.2.2.1 _ _ (mem_get_in hg)
      dsimp only at f1
      rw [e1] at f1
      cases f1
      obtain ⟨i1, q1, q2, q3⟩ := iv_nar_ok g.1 f2' e2 e3
      dsimp only at q1
      rw [q1]
      exact mem_take_ok m i1 ex ρ (as_iv g q2 q3) hm'
    · exact mem_take_ok m iv ex ρ g hm'
    · cases hb : decide (lo = hi) with
      | true =>
        have hb := of_decide_eq_true hb
        have hv : x.toInt = lo := by omega
        refine mem_take_ok m iv _ ρ ?_ hm'
        obtain ⟨g1, g2, g3, g4, g5⟩ := g
        exact ⟨g1, g2, g3, g4, ex_note_ok g5 e1 hv⟩
      | false =>
        obtain ⟨⟨g1, g2, g3, g4, g5⟩, e⟩ := as_grow g e2 e3
        exact mem_take_ok m _ _ _ ⟨g1, g2, g3, g4, ex_note_ok g5 e1 e⟩ hm'
/-- a value of a kind, as an abstract one -/
noncomputable def ci_av (c : CV) (iv : IV) : AV × IV := match c with
  | .inl (lo, hi) => bif decide (lo = hi) then (.inl (none, lo), iv) else (.inl ((some iv.length), 0), iv ++ [(lo, hi)])
  | .inr (.inl (lo, hi)) => bif decide (lo = hi) then (.inr (.inl (none, lo)), iv) else (.inr (.inl ((some iv.length), 0)), iv ++ [(lo, hi)])
  | .inr (.inr (.inl a)) => (.inr (.inr (.inl a)), iv)
  | .inr (.inr (.inr (.inl k))) => (.inr (.inr (.inr (.inl k))), iv)
  | .inr (.inr (.inr (.inr ()))) => (.inr (.inr (.inr (.inr ()))), iv)
theorem ci_av_ok {w : AW} {E : AEnv} {ρ : Nat → Int} {c : CV} {pc : Nat} {lv : List (Nat × AV)} {st : List AV} {iv : IV} {ex : AX} {σ : pm_S} {v : Value} (g : as_r w E ρ (pc, lv, st, iv, ex) σ) (hv : cv_g c v) :
    ∃ ρ', as_r w E ρ' (pc, lv, st, (ci_av c iv).2, ex) σ ∧ av_g (ci_av c iv).2.length ρ' (ci_av c iv).1 v ∧ iv.length ≤ (ci_av c iv).2.length ∧ ∀ k, k < iv.length → ρ' k = ρ k := by
  rcases c with ⟨lo, hi⟩ | ⟨lo, hi⟩ | a | a | ⟨⟩
  · cases v with
    | int x =>
      unfold ci_av
      dsimp only
      cases hb : decide (lo = hi) with
      | true =>
        have hb := of_decide_eq_true hb
        exact ⟨ρ, g, (by have := hv.1; have := hv.2; show x.toInt = lo; omega), Nat.le_refl _, fun _ _ => rfl⟩
      | false =>
        obtain ⟨g', e⟩ := as_grow g hv.1 hv.2
        exact ⟨_, g', e, by show iv.length ≤ (iv ++ [(lo, hi)]).length; rw [List.length_append]; exact Nat.le_add_right _ _, iv_ext_old⟩
    | _ => exact hv.elim
  · cases v with
    | long x =>
      unfold ci_av
      dsimp only
      cases hb : decide (lo = hi) with
      | true =>
        have hb := of_decide_eq_true hb
        exact ⟨ρ, g, (by have := hv.1; have := hv.2; show x.toInt = lo; omega), Nat.le_refl _, fun _ _ => rfl⟩
      | false =>
        obtain ⟨g', e⟩ := as_grow g hv.1 hv.2
        exact ⟨_, g', e, by show iv.length ≤ (iv ++ [(lo, hi)]).length; rw [List.length_append]; exact Nat.le_add_right _ _, iv_ext_old⟩
    | _ => exact hv.elim
  · exact ⟨ρ, g, by cases v <;> first | exact hv | exact hv.elim, Nat.le_refl _, fun _ _ => rfl⟩
  · exact ⟨ρ, g, by cases v <;> first | exact hv | exact hv.elim, Nat.le_refl _, fun _ _ => rfl⟩
  · exact ⟨ρ, g, by cases v <;> first | exact hv | exact hv.elim, Nat.le_refl _, fun _ _ => rfl⟩
/-- the state behind a call, in one case -/
noncomputable def case_do (w : AW) (A : AS) (k : Nat) (M : List Rng) (C : Cs) : Option AS := match nar_as A.2.2.2.1 (A.2.2.1.take k).reverse C.1 with
  | none => none
  | some iv => match mem_take iv (ex_call w A.2.2.2.2 M C.2.2.1) C.2.1 with
    | none => none
    | some (iv, ex) => match C.2.2.2 with
      | none => some (A.1 + 3, A.2.1, A.2.2.1.drop k, iv, ex)
      | some (.inl c) => some (A.1 + 3, A.2.1, (ci_av c iv).1 :: A.2.2.1.drop k, (ci_av c iv).2, ex)
      | some (.inr q) => match mem_get ex.1 q.1 q.2 with
        | some a => some (A.1 + 3, A.2.1, a :: A.2.2.1.drop k, iv, ex)
        | none => some (a_pi (A.1 + 3) A.2.1 (A.2.2.1.drop k) iv ex (-2147483648) 2147483647)
noncomputable def call_do (w : AW) (sums : List Sum1) (A : AS) (y k : Nat) (ci : Option Nat) (mc ms : Nat) : Option (List AS) :=
  bif Nat.ble k A.2.2.1.length && (Nat.beq mc 0 && (Nat.beq ms 0 && (Nat.ble (av_sz (A.2.2.1.drop k)) 8 && rc_chk w.1.1 ci (A.2.2.1.take k).reverse))) then
    match sums.find? (fun S => Nat.beq S.1 y && (cvs_le A.2.2.2.1 (A.2.2.1.take k).reverse S.2.1 && (mm_le A.2.2.2.1 A.2.2.2.2.1 S.2.2.1 && (S.2.2.2.1.all (fun i => A.2.2.2.2.2.2.1.contains i) && S.2.2.2.2.1.all (fun r => rg_sub A.2.2.2.2.2.2.2.1 r.1 r.2.1 r.2.2))))) with
    | some S => some (S.2.2.2.2.2.flatMap (fun C => (case_do w A k S.2.2.2.2.1 C).toList))
    | none => none
  else none
theorem case_do_ok {w : AW} {E : AEnv} {ρ : Nat → Int} {A : AS} {pc' : Nat} {cl : List (Nat × Value)} {cs : List Value} {W : pm_H × Nat × Nat} {k : Nat} {M : List Rng} {C : Cs} {h' : pm_H} {r : Option Value} {z : Nat × Nat} (g : as_r w E ρ A (pc', cl, cs, W)) (hs : hs_g w.1.1 h') (hf : fr_g M W.1 h') (hM : M.all (fun r => rg_sub A.2.2.2.2.2.2.2.1 r.1 r.2.1 r.2.2) = true) (hC : cs_g w (cs.take k).reverse h' r C) :
    ∃ B, case_do w A k M C = some B ∧ as_g w E B (pc' + 3, cl, r.toList ++ cs.drop k, h', z) := by
  obtain ⟨pc, lv, st, iv, ex⟩ := A
  obtain ⟨g1, g2, g3, g4, g5⟩ := g
  obtain ⟨c1, c2, c3, c4⟩ := hC
  dsimp only at g1 g2 g3 g4 g5 hM
  subst g2
  obtain ⟨i1, e1, n1, p1⟩ := nar_as_ok g1 (f2_rev (f2_take k g4)) c1
  have hex := ex_call_ok g5 hs hf hM c3
  have q0 : as_r w E ρ (pc' + 3, lv, st.drop k, i1, ex_call w ex M C.2.2.1) (pc' + 3, cl, cs.drop k, h', z) := as_iv (iv := iv) ⟨g1, rfl, g3, f2_drop k g4, hex⟩ n1 p1
  obtain ⟨⟨i2, x2⟩, e2, ρ2, q2⟩ := mem_take_ok C.2.1 i1 _ ρ q0 c2
  dsimp only at q2
  unfold case_do
  dsimp only
  rw [e1]
  simp only [e2]
  split
  · rename_i hc
    rw [hc] at c4
    cases r with
    | none => exact ⟨_, rfl, ρ2, q2⟩
    | some v => exact c4.elim
  · rename_i c hc
    rw [hc] at c4
    cases r with
    | none => exact c4.elim
    | some v =>
      obtain ⟨ρ3, r1, r2, r3, r4⟩ := ci_av_ok q2 c4
      obtain ⟨s1, s2, s3, s4, s5⟩ := r1
      exact ⟨_, rfl, ρ3, s1, rfl, s3, ⟨r2, s4⟩, s5⟩
  · rename_i q hc
    rw [hc] at c4
    cases r with
    | none => exact c4.elim
    | some v =>
      cases v with
      | int x =>
        split
        · rename_i a hm
          obtain ⟨s1, s2, s3, s4, s5⟩ := q2
          obtain ⟨v, f1, f2'⟩ := s5.2.1 _ _ (mem_get_in hm)
          have c4 : ld h' q.1 q.2 = some (.int x) := c4
          dsimp only at f1
          rw [c4] at f1
          cases f1
          exact ⟨_, rfl, ρ2, s1, rfl, s3, ⟨f2', s4⟩, s5⟩
        · exact ⟨_, rfl, a_pi_ok q2 (ai_lo _) (ai_hi _)⟩
      | _ => exact c4.elim
end
