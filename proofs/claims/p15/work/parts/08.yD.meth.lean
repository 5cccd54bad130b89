/-! THE EXECUTOR (second writing), part 13: segments, methods -/
/-- states behind a row whose answer is told apart -/
noncomputable def sp_do (spl : List Nat) (pc : Nat) (As : List AS) : Option (List AS) := bif spl.contains pc then (match As with
  | [] => some []
  | B :: l => match as_split B with
    | none => none
    | some Bs => match sp_do spl pc l with
      | none => none
      | some r => some (Bs ++ r)) else some As
theorem sp_do_ok {w : AW} {E : AEnv} {spl : List Nat} {pc : Nat} {σ : pm_S} {B : AS} (g : as_g w E B σ) : ∀ {As Rs : List AS}, sp_do spl pc As = some Rs → B ∈ As → ∃ C ∈ Rs, as_g w E C σ := by
  intro As
  induction As with
  | nil => intro Rs _ hm; exact absurd hm List.not_mem_nil
  | cons A l ih =>
    intro Rs h hm
    unfold sp_do at h
    cases hc : spl.contains pc with
    | false =>
      rw [hc] at h
      cases h
      exact ⟨B, hm, g⟩
    | true =>
      rw [hc, cond_true] at h
      dsimp only at h
      cases h1 : as_split A with
      | none => rw [h1] at h; cases h
      | some Bs =>
        rw [h1] at h
        dsimp only at h
        cases h2 : sp_do spl pc l with
        | none => rw [h2] at h; cases h
        | some r =>
          rw [h2] at h
          cases h
          cases List.mem_cons.mp hm with
          | inl e =>
            subst e
            obtain ⟨C, hC, gC⟩ := as_split_ok g h1
            exact ⟨C, List.mem_append_left _ hC, gC⟩
          | inr hm =>
            obtain ⟨C, hC, gC⟩ := ih h2 hm
            exact ⟨C, List.mem_append_right _ hC, gC⟩
/-- what a check speaks of: rows, what is known of calls, cuts, where answers are told apart, arguments in their locals, cases; what may be stored to, locals that stay -/
noncomputable abbrev Job (w : AW) : Type := List (Nat × AR w) × List Sum1 × List (Nat × List Cut) × List Nat × List (Nat × CV) × List Cs × List Rng × List Nat
noncomputable def nx_chk {w : AW} (J : Job w) (r0 : Option (List (Nat × AV) × Mem × RK)) (go : AS → Bool) (B : AS) : Bool := match pm_at J.2.2.1 B.1 with
  | some cl => decide (B.2.2.2.2.2.2.2 = J.2.2.2.2.2.2) && cl.any (fun c => cut_le B c && (match r0 with | some (l0, m0, rk0) => rk_chk l0 m0 B.2.1 B.2.2.2.2.1 12 c.2.2.2.2 rk0 | none => true))
  | none => go B
noncomputable def ar_run {w : AW} (J : Job w) (r0 : Option (List (Nat × AV) × Mem × RK)) : Nat → AS → Bool
  | 0, _ => false
  | n + 1, A => match pm_at J.1 A.1 with
    | none => false
    | some (.inl r) => match r.1.2 A with
      | none => false
      | some As => match sp_do J.2.2.2.1 A.1 As with
        | none => false
        | some Bs => Bs.all (nx_chk J r0 (ar_run J r0 n))
    | some (.inr (.inl (y, k, ci, mc, ms))) => match call_do w J.2.1 A y k ci mc ms with
      | none => false
      | some As => match sp_do J.2.2.2.1 A.1 As with
        | none => false
        | some Bs => Bs.all (nx_chk J r0 (ar_run J r0 n))
    | some (.inr (.inr kd)) => decide (A.2.2.2.2.2.2.2 = J.2.2.2.2.2.2) && rt_chk kd A J.2.2.2.2.1 J.2.2.2.2.2.1
/-- it runs to an answer -/
noncomputable def ar_G {w : AW} (J : Job w) (call : pm_Call) (h0 : pm_H) (as : List Value) (σ : pm_S) : Prop := ∃ o, pm_Go (pm_at (ar_tab J.1)) call σ o ∧ hs_g w.1.1 o.1 ∧ fr_g J.2.2.2.2.2.2.1 h0 o.1 ∧ ∃ C ∈ J.2.2.2.2.2.1, cs_g w as o.1 o.2 C
theorem rt_chk_ok {w : AW} {J : Job w} {E : AEnv} {A : AS} {σ : pm_S} {kd : Nat} {as : List Value} (g : as_g w E A σ) (hMK : A.2.2.2.2.2.2.2 = J.2.2.2.2.2.2) (hal : f2 (fun (q : Nat × CV) v => cv_g q.2 v ∧ pm_get E.2.2.2 q.1 = some v) J.2.2.2.2.1 as) (h : rt_chk kd A J.2.2.2.2.1 J.2.2.2.2.2.1 = true) : ∃ o, pm_ret kd σ.2.2.1 σ.2.2.2.1 o ∧ hs_g w.1.1 o.1 ∧ fr_g J.2.2.2.2.2.2.1 E.2.2.1 o.1 ∧ ∃ C ∈ J.2.2.2.2.2.1, cs_g w as o.1 o.2 C := by
  obtain ⟨C, hC, hb⟩ := List.any_eq_true.mp h
  rw [Bool.and_eq_true, Bool.and_eq_true, Bool.and_eq_true] at hb
  obtain ⟨b1, b2, b3, b4⟩ := hb
  obtain ⟨o, e1, e2, e3⟩ := rt_one_ok g b4
  have c1 := ag_chk_ok g hal b1
  obtain ⟨ρ, g1, g2, g3, g4, g5⟩ := g
  have c2 := mm_le_ok g1 g5 b2
  have c3 : ∀ i ∈ C.2.2.1, w.1.2.1 i σ.2.2.2.1 := fun i hi => g5.2.2.2.1 i (by have := List.all_eq_true.mp b3 i hi; simpa using this)
  have c5 := g5.2.2.2.2.1
  rw [hMK] at c5
  rw [← e2] at c2 c3 c5
  exact ⟨o, e1, by rw [e2]; exact g5.1, c5, C, hC, c1, c2, c3, e3⟩
theorem ar_run_ok {w : AW} {J : Job w} {r0 : Option (List (Nat × AV) × Mem × RK)} {call : pm_Call} {E : AEnv} {as : List Value} {cl0 : List (Nat × Value)} {hh0 : pm_H}
    (hS : ∀ S ∈ J.2.1, sum_g w call S) (hal : f2 (fun (q : Nat × CV) v => cv_g q.2 v ∧ pm_get E.2.2.2 q.1 = some v) J.2.2.2.2.1 as)
    (h0 : ∀ l0 m0 rk0, r0 = some (l0, m0, rk0) → (∀ i a, (i, a) ∈ l0 → ∃ v, pm_get cl0 i = some v ∧ av_g E.1 E.2.1 a v) ∧ ∀ q a, (q, a) ∈ m0 → ∃ v, ld hh0 q.1 q.2 = some v ∧ av_g E.1 E.2.1 a v)
    (K : ∀ (cl : List Cut) (c : Cut) (σ : pm_S), pm_at J.2.2.1 σ.1 = some cl → c ∈ cl → cut_g w J.2.2.2.2.2.2.1 J.2.2.2.2.2.2.2 E.2.2.1 E.2.2.2 c σ → (∀ l0 m0 rk0, r0 = some (l0, m0, rk0) → rk_lt 12 (rk_v σ.2.1 σ.2.2.2.1 c.2.2.2.2) (rk_v cl0 hh0 rk0)) → ar_G J call E.2.2.1 as σ) :
    ∀ (n : Nat) (A : AS) (σ : pm_S), ar_run J r0 n A = true → as_g w E A σ → ar_G J call E.2.2.1 as σ
  | 0, _, _, h, _ => by cases h
  | n + 1, A, σ, h, g => by
    have nx : ∀ (B : AS) (τ : pm_S), nx_chk J r0 (ar_run J r0 n) B = true → as_g w E B τ → ar_G J call E.2.2.1 as τ := by
      intro B τ hB gB
      unfold nx_chk at hB
      cases hc : pm_at J.2.2.1 B.1 with
      | none =>
        rw [hc] at hB
        exact ar_run_ok hS hal h0 K n B τ hB gB
      | some cl =>
        rw [hc] at hB
        dsimp only at hB
        rw [Bool.and_eq_true] at hB
        have hMK := of_decide_eq_true hB.1
        obtain ⟨c, hcm, hcb⟩ := List.any_eq_true.mp hB.2
        rw [Bool.and_eq_true] at hcb
        have hg := cut_le_ok gB hcb.1
        rw [hMK] at hg
        obtain ⟨ρ, g1, g2, g3, g4, g5⟩ := gB
        refine K cl c τ (by rw [g2]; exact hc) hcm hg (fun l0 m0 rk0 hr => ?_)
        have hr2 := hcb.2
        rw [hr] at hr2
        dsimp only at hr2
        have := h0 l0 m0 rk0 hr
        exact rk_chk_ok (fun k hk => g1.2.2 k hk) this.1 this.2 g3 g5.2.1 12 c.2.2.2.2 rk0 hr2
    have many : ∀ (As Bs : List AS) (τ : pm_S) (B : AS), sp_do J.2.2.2.1 A.1 As = some Bs → Bs.all (nx_chk J r0 (ar_run J r0 n)) = true → B ∈ As → as_g w E B τ → ar_G J call E.2.2.1 as τ := by
      intro As Bs τ B hsp hall hB gB
      obtain ⟨C, hC, gC⟩ := sp_do_ok gB hsp hB
      exact nx C τ (List.all_eq_true.mp hall C hC) gC
    have gpc : σ.1 = A.1 := by obtain ⟨ρ, g1, g2, g3, g4, g5⟩ := g; exact g2
    unfold ar_run at h
    cases ht : pm_at J.1 A.1 with
    | none => rw [ht] at h; cases h
    | some x =>
      rw [ht] at h
      have hl := ar_at ht
      rw [← gpc] at hl
      match x, hl, h with
      | .inl r, hl, h =>
        dsimp only at h
        cases hA : r.1.2 A with
        | none => rw [hA] at h; cases h
        | some As =>
          rw [hA] at h
          dsimp only at h
          cases hsp : sp_do J.2.2.2.1 A.1 As with
          | none => rw [hsp] at h; cases h
          | some Bs =>
            rw [hsp] at h
            dsimp only at h
            obtain ⟨σ', e1, A', e2, e3⟩ := r.2 E A σ As g hA
            obtain ⟨o, o1, o2⟩ := many As Bs σ' A' hsp h e2 e3
            exact ⟨o, Go_st hl e1 o1, o2⟩
      | .inr (.inl (y, k, ci, mc, ms)), hl, h =>
        dsimp only at h
        cases hA : call_do w J.2.1 A y k ci mc ms with
        | none => rw [hA] at h; cases h
        | some As =>
          rw [hA] at h
          dsimp only at h
          cases hsp : sp_do J.2.2.2.1 A.1 As with
          | none => rw [hsp] at h; cases h
          | some Bs =>
            rw [hsp] at h
            dsimp only at h
            obtain ⟨h', r, e1, e2, B, hB, e3⟩ := call_do_ok hS g hA
            obtain ⟨o, o1, o2⟩ := many As Bs _ B hsp h hB e3
            exact ⟨o, Go_call hl e1 e2 o1, o2⟩
      | .inr (.inr kd), hl, h =>
        dsimp only at h
        rw [Bool.and_eq_true] at h
        obtain ⟨o, o1, o2⟩ := rt_chk_ok g (of_decide_eq_true h.1) hal h.2
        exact ⟨o, Go_ret hl o1, o2⟩
/-- a cut as a state: locals, stack, memory one after the other -/
noncomputable def as_locs : List (Nat × CV) → AS → AS
  | [], A => A
  | (i, c) :: l, A => as_locs l (A.1, (i, (ci_av c A.2.2.2.1).1) :: A.2.1, A.2.2.1, (ci_av c A.2.2.2.1).2, A.2.2.2.2)
theorem as_locs_ok {w : AW} {E : AEnv} {σ : pm_S} : ∀ (l : List (Nat × CV)) (A : AS) (ρ : Nat → Int), as_r w E ρ A σ → (∀ i k, (i, k) ∈ l → ∃ v, pm_get σ.2.1 i = some v ∧ cv_g k v) → ∃ ρ', as_r w E ρ' (as_locs l A) σ
  | [], A, ρ, g, _ => ⟨ρ, g⟩
  | (i, c) :: l, (pc, lv, st, iv, ex), ρ, g, h => by
    obtain ⟨v, e1, e2⟩ := h i c List.mem_cons_self
    obtain ⟨ρ', r1, r2, r3, r4⟩ := ci_av_ok g e2
    obtain ⟨s1, s2, s3, s4, s5⟩ := r1
    refine as_locs_ok l _ ρ' ⟨s1, s2, fun j a hm => ?_, s4, s5⟩ (fun j k hm => h j k (List.mem_cons_of_mem _ hm))
    cases List.mem_cons.mp hm with
    | inl e => cases e; exact ⟨v, e1, r2⟩
    | inr hm => exact s3 j a hm
noncomputable def as_stk : List CV → AS → AS
  | [], A => A
  | c :: l, A => ((as_stk l A).1, (as_stk l A).2.1, (ci_av c (as_stk l A).2.2.2.1).1 :: (as_stk l A).2.2.1, (ci_av c (as_stk l A).2.2.2.1).2, (as_stk l A).2.2.2.2)
theorem as_stk_ok {w : AW} {E : AEnv} {pc : Nat} {cl : List (Nat × Value)} {W : pm_H × Nat × Nat} {A : AS} {ρ : Nat → Int} (g : as_r w E ρ A (pc, cl, [], W)) : ∀ (l : List CV) (vs : List Value), f2 cv_g l vs → ∃ ρ', as_r w E ρ' (as_stk l A) (pc, cl, vs, W)
  | [], [], _ => ⟨ρ, g⟩
  | [], _ :: _, h => h.elim
  | _ :: _, [], h => h.elim
  | c :: l, v :: vs, h => by
    obtain ⟨ρ1, g1⟩ := as_stk_ok g l vs h.2
    obtain ⟨ρ', r1, r2, r3, r4⟩ := ci_av_ok g1 h.1
    obtain ⟨s1, s2, s3, s4, s5⟩ := r1
    exact ⟨ρ', s1, s2, s3, ⟨r2, s4⟩, s5⟩
noncomputable def cut_as (pc : Nat) (M : List Rng) (K : List Nat) (c : Cut) : Option AS := match mem_take (as_stk c.2.1 (as_locs c.1 (pc, [], [], [], [], [], c.2.2.2.1, M, K))).2.2.2.1 (as_stk c.2.1 (as_locs c.1 (pc, [], [], [], [], [], c.2.2.2.1, M, K))).2.2.2.2 c.2.2.1 with
  | some (iv, ex) => some (pc, (as_stk c.2.1 (as_locs c.1 (pc, [], [], [], [], [], c.2.2.2.1, M, K))).2.1, (as_stk c.2.1 (as_locs c.1 (pc, [], [], [], [], [], c.2.2.2.1, M, K))).2.2.1, iv, ex)
  | none => none
theorem cut_as_ok {w : AW} {M : List Rng} {K : List Nat} {h0 : pm_H} {c0 : List (Nat × Value)} {c : Cut} {σ : pm_S} (h : cut_g w M K h0 c0 c σ) : ∃ (A : AS) (n : Nat) (ρ : Nat → Int), cut_as σ.1 M K c = some A ∧ as_g w (n, ρ, h0, c0) A σ ∧ (∀ i a, (i, a) ∈ A.2.1 → ∃ v, pm_get σ.2.1 i = some v ∧ av_g n ρ a v) ∧ ∀ q a, (q, a) ∈ A.2.2.2.2.1 → ∃ v, ld σ.2.2.2.1 q.1 q.2 = some v ∧ av_g n ρ a v := by
  obtain ⟨pc, cl, cs, W⟩ := σ
  obtain ⟨h1, h2, h3, h4, h5, h6, h7⟩ := h
  dsimp only at h1 h2 h3 h4 h5 h6 h7
  have g0 : as_r w (0, fun _ => 0, h0, c0) (fun _ => 0) (pc, [], [], [], [], [], c.2.2.2.1, M, K) (pc, cl, [], W) :=
    ⟨⟨fun k lo hi hk => (by cases hk), Nat.le_refl _, fun _ _ => rfl⟩, rfl, fun i a hm => absurd hm List.not_mem_nil, trivial, h3, fun q a hm => absurd hm List.not_mem_nil, fun c hc => absurd hc List.not_mem_nil, h5, h6, h7⟩
  obtain ⟨ρ1, g1⟩ := as_locs_ok c.1 _ _ g0 h1
  obtain ⟨ρ2, g2⟩ := as_stk_ok g1 c.2.1 cs h2
  have hpc : (as_stk c.2.1 (as_locs c.1 (pc, [], [], [], [], [], c.2.2.2.1, M, K))).1 = pc := g2.2.1.symm
  obtain ⟨q, e3, ρ3, g3⟩ := mem_take_ok c.2.2.1 _ _ ρ2 g2 h4
  rw [hpc] at g3
  refine ⟨_, q.1.length, ρ3, by unfold cut_as; rw [e3], ⟨ρ3, ⟨g3.1.1, Nat.le_refl _, fun _ _ => rfl⟩, g3.2⟩, g3.2.2.1, g3.2.2.2.2.2.1⟩
/-- every cut is checked -/
noncomputable def cuts_chk {w : AW} (J : Job w) (N : Nat) : Bool := J.2.2.1.all (fun q => q.2.all (fun c => rk_small c.2.2.2.2 && (match cut_as q.1 J.2.2.2.2.2.2.1 J.2.2.2.2.2.2.2 c with
  | some A => ar_run J (some (A.2.1, A.2.2.2.2.1, c.2.2.2.2)) N A
  | none => false)))
theorem cuts_ok {w : AW} {J : Job w} {call : pm_Call} {N : Nat} {h0 : pm_H} {c0 : List (Nat × Value)} {as : List Value} (hS : ∀ S ∈ J.2.1, sum_g w call S) (hal : f2 (fun (q : Nat × CV) v => cv_g q.2 v ∧ pm_get c0 q.1 = some v) J.2.2.2.2.1 as) (h : cuts_chk J N = true) :
    ∀ (m : Nat) (cl : List Cut) (c : Cut) (σ : pm_S), pm_at J.2.2.1 σ.1 = some cl → c ∈ cl → cut_g w J.2.2.2.2.2.2.1 J.2.2.2.2.2.2.2 h0 c0 c σ → rk_e 8589934592 12 (rk_v σ.2.1 σ.2.2.2.1 c.2.2.2.2) < m → ar_G J call h0 as σ
  | 0, _, _, _, _, _, _, hm => absurd hm (Nat.not_lt_zero _)
  | m + 1, cl, c, σ, hc, hcl, hg, hm => by
    have hone : ∀ (cl : List Cut) (c : Cut) (pc : Nat), pm_at J.2.2.1 pc = some cl → c ∈ cl → rk_small c.2.2.2.2 = true ∧ (match cut_as pc J.2.2.2.2.2.2.1 J.2.2.2.2.2.2.2 c with
        | some A => ar_run J (some (A.2.1, A.2.2.2.2.1, c.2.2.2.2)) N A
        | none => false) = true := by
      intro cl c pc h1 h2
      have h3 := List.all_eq_true.mp (List.all_eq_true.mp h _ (pm_at_in h1)) c h2
      rw [Bool.and_eq_true] at h3
      exact h3
    obtain ⟨s1, s2⟩ := hone cl c σ.1 hc hcl
    obtain ⟨A, n, ρ, e1, e2, e3, e4⟩ := cut_as_ok hg
    rw [e1] at s2
    dsimp only at s2
    refine ar_run_ok (E := (n, ρ, h0, c0)) (cl0 := σ.2.1) (hh0 := σ.2.2.2.1) hS hal (fun l0 m0 rk0 hr => ?_) (fun cl' c' σ' k1 k2 k3 k4 => ?_) N A σ s2 e2
    · cases hr
      exact ⟨e3, e4⟩
    · have h2 := hone cl' c' σ'.1 k1 k2
      have h3 := k4 _ _ _ rfl
      have h4 : rk_e 8589934592 12 (rk_v σ'.2.1 σ'.2.2.2.1 c'.2.2.2.2) < rk_e 8589934592 12 (rk_v σ.2.1 σ.2.2.2.1 c.2.2.2.2) := rk_e_mono (K := 8589934592) (by decide) 12 _ _ (rk_v_lt h2.1) h3
      exact cuts_ok hS hal h m cl' c' σ' k1 k2 k3 (by omega)
/-- arguments in their locals -/
noncomputable def cv_cat (c : CV) : Nat := match c with
  | .inr (.inl _) => 2
  | _ => 1
theorem cv_cat_eq {c : CV} {v : Value} (h : cv_g c v) : v.category = cv_cat c := by
  rcases c with ⟨lo, hi⟩ | ⟨lo, hi⟩ | a | k | ⟨⟩ <;> cases v <;> first | rfl | exact h.elim
noncomputable def arg_lv : Nat → List CV → List (Nat × CV)
  | _, [] => []
  | i, c :: l => (i, c) :: arg_lv (bif Nat.beq (cv_cat c) 2 then i + 2 else i + 1) l
theorem lv_args_ge {j : Nat} {v : Value} : ∀ {vs : List Value} {i : Nat}, pm_get (lv_args i vs) j = some v → i ≤ j
  | [], _, h => by cases h
  | u :: vs, i, h => by
    unfold lv_args pm_get at h
    cases hb : Nat.beq i j with
    | true => exact Nat.le_of_eq (Nat.eq_of_beq_eq_true hb)
    | false =>
      simp only [hb, cond_false] at h
      have := lv_args_ge h
      split at this <;> omega
theorem arg_lv_ok : ∀ {l : List CV} {vs : List Value} {i : Nat}, f2 cv_g l vs → f2 (fun (q : Nat × CV) v => cv_g q.2 v ∧ pm_get (lv_args i vs) q.1 = some v) (arg_lv i l) vs
  | [], [], _, _ => trivial
  | [], _ :: _, _, h => h.elim
  | _ :: _, [], _, h => h.elim
  | c :: l, v :: vs, i, h => by
    have hc := cv_cat_eq h.1
    have hn : (bif Nat.beq (cv_cat c) 2 then i + 2 else i + 1) = if v.category = 2 then i + 2 else i + 1 := by
      rw [hc]
      rcases c with ⟨lo, hi⟩ | ⟨lo, hi⟩ | a | k | ⟨⟩ <;> rfl
    refine ⟨⟨h.1, ?_⟩, ?_⟩
    · unfold lv_args
      exact pm_get_self
    · rw [hn]
      refine f2_mono (fun q u hq => ⟨hq.1, ?_⟩) (arg_lv_ok (l := l) (vs := vs) (i := if v.category = 2 then i + 2 else i + 1) h.2)
      have hge := lv_args_ge hq.2
      unfold lv_args
      refine pm_get_ne ?_ hq.2
      split at hge <;> omega
theorem f2_in {α β : Type} {R : α → β → Prop} {a : α} : ∀ {l : List α} {m : List β}, f2 R l m → a ∈ l → ∃ b, R a b
  | [], [], _, h => absurd h List.not_mem_nil
  | [], _ :: _, h, _ => h.elim
  | _ :: _, [], h, _ => h.elim
  | _ :: _, b :: _, h, hm => by
    cases List.mem_cons.mp hm with
    | inl e => subst e; exact ⟨b, h.1⟩
    | inr hm => exact f2_in h.2 hm
/-- a method is checked: its entry and its cuts -/
noncomputable def sum_chk {w : AW} (tab : List (Nat × AR w)) (sums : List Sum1) (cuts : List (Nat × List Cut)) (spl : List Nat) (K : List Nat) (N : Nat) (S : Sum1) : Bool :=
  cuts_chk (tab, sums, cuts, spl, arg_lv 0 S.2.1, S.2.2.2.2.2, S.2.2.2.2.1, K) N && (match cut_as 0 S.2.2.2.2.1 K (arg_lv 0 S.2.1, [], S.2.2.1, S.2.2.2.1, []) with
    | some A => ar_run (tab, sums, cuts, spl, arg_lv 0 S.2.1, S.2.2.2.2.2, S.2.2.2.2.1, K) none N A
    | none => false)
theorem cv_sz_le : ∀ {l : List CV} {vs : List Value}, f2 cv_g l vs → (lg_sl vs).length = (l.map cv_cat).sum
  | [], [], _ => rfl
  | [], _ :: _, h => h.elim
  | _ :: _, [], h => h.elim
  | c :: l, v :: vs, h => by
    have ih := cv_sz_le h.2
    have hc := cv_cat_eq h.1
    unfold lg_sl at ih ⊢
    rw [List.flatMap_cons, List.length_append, ih, List.map_cons, List.sum_cons, ← hc]
    rcases c with ⟨lo, hi⟩ | ⟨lo, hi⟩ | a | k | ⟨⟩ <;> cases v <;> first | rfl | exact h.1.elim
theorem meth_ok {w : AW} {P : List (Nat × pm_M)} {I : pm_M} {tab : List (Nat × AR w)} {sums : List Sum1} {cuts : List (Nat × List Cut)} {spl K : List Nat} {N d : Nat} {S : Sum1} (hI : pm_at P S.1 = some I) (ht : I.2.2.2.2.2.2.2 = ar_tab tab) (hz : Nat.ble (S.2.1.map cv_cat).sum I.2.2.1 = true) (hS : ∀ T ∈ sums, sum_g w (pm_Rt P d) T) (hc : sum_chk tab sums cuts spl K N S = true) : sum_g w (pm_Rt P (d + 1)) S := by
  intro h as hh ha hm hf
  unfold sum_chk at hc
  rw [Bool.and_eq_true] at hc
  have hal := arg_lv_ok (i := 0) ha
  have hg : cut_g w S.2.2.2.2.1 K h (lv_args 0 as) (arg_lv 0 S.2.1, [], S.2.2.1, S.2.2.2.1, []) (0, lv_args 0 as, [], h, I.2.2.2.2.2.1, I.2.2.2.2.2.2.1) :=
    ⟨fun i k hik => (by obtain ⟨v, q1, q2⟩ := f2_in hal hik; exact ⟨v, q2, q1⟩), trivial, hh, hm, hf, fun a k _ => rfl, fun i _ => rfl⟩
  obtain ⟨A, n, ρ, e1, e2, e3, e4⟩ := cut_as_ok hg
  have hr := hc.2
  have e1' : cut_as 0 S.2.2.2.2.1 K (arg_lv 0 S.2.1, [], S.2.2.1, S.2.2.2.1, []) = some A := e1
  rw [e1'] at hr
  dsimp only at hr
  obtain ⟨o, o1, o2, o3, o4⟩ := ar_run_ok (E := (n, ρ, h, lv_args 0 as)) (cl0 := []) (hh0 := []) (as := as) (call := pm_Rt P d) hS hal (fun l0 m0 rk0 hr => by cases hr) (fun cl c σ k1 k2 k3 _ => cuts_ok hS hal hc.1 _ cl c σ k1 k2 k3 (Nat.lt_succ_self _)) N A _ hr e2
  refine ⟨o.1, o.2, ⟨I, hI, ?_, ?_⟩, o2, o3, o4⟩
  · rw [cv_sz_le ha]
    exact Nat.le_of_ble_eq_true hz
  · rw [ht]
    exact o1
/-- more depth does no harm -/
theorem pm_go_up {look : Nat → Option pm_I} {call call' : pm_Call} (hc : ∀ y h as h' r, call y h as h' r → call' y h as h' r) : ∀ (n : Nat) (σ : pm_S) (o : pm_H × Option Value), pm_go look call n σ o → pm_go look call' n σ o
  | 0, _, _, h => h
  | n + 1, σ, o, h => by
    unfold pm_go at h ⊢
    split at h
    · exact h
    · split at h
      · exact h
      · exact pm_go_up hc n _ o h
    · obtain ⟨h', r, e1, e2, e3⟩ := h
      exact ⟨h', r, hc _ _ _ _ _ e1, e2, pm_go_up hc n _ o e3⟩
    · exact h
theorem pm_Rt_up {P : List (Nat × pm_M)} : ∀ (d : Nat) (y : Nat) (h : pm_H) (as : List Value) (h' : pm_H) (r : Option Value), pm_Rt P d y h as h' r → pm_Rt P (d + 1) y h as h' r
  | 0, _, _, _, _, _, h => h.elim
  | d + 1, y, h, as, h', r, ⟨I, e1, e2, n, e3⟩ => ⟨I, e1, e2, n, pm_go_up (pm_Rt_up d) n _ _ e3⟩
theorem sum_up {w : AW} {P : List (Nat × pm_M)} {S : Sum1} {d : Nat} (h : sum_g w (pm_Rt P d) S) : ∀ e : Nat, sum_g w (pm_Rt P (d + e)) S
  | 0 => h
  | e + 1 => fun h0 as a1 a2 a3 a4 => by
    obtain ⟨h', r, q1, q2⟩ := sum_up h e h0 as a1 a2 a3 a4
    exact ⟨h', r, pm_Rt_up _ _ _ _ _ _ q1, q2⟩
