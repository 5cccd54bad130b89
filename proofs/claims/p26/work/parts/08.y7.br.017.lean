section
/-- a cut as a state: locals, stack, memory one after the other -/
noncomputable def as_locs : List (Nat × CV) → AS → AS
  | [], A => A
  | (i, c) :: l, A => as_locs l (A.1, (i, (ci_av c A.2.2.2.1).1) :: A.2.1, A.2.2.1, (ci_av c A.2.2.2.1).2, A.2.2.2.2)
theorem as_locs_ok {w : AW} {E : AEnv} {σ : pm_S} : ∀ (l : List (Nat × CV)) (A : AS) (ρ : Nat → Int), as_r w E ρ A σ → (∀ i k, (i, k) ∈ l → ∃ v, pm_get σ.2.1 i = some v ∧ cv_g k v) → ∃ ρ', as_r w E ρ' (as_locs l A) σ
  | [], A, ρ, g, _ => ⟨ρ, g⟩
  | (i, c) :: l, (pc, lv, st, iv, ex), ρ, g, h => by
    obtain ⟨v, e1, e2⟩ := h i c List.mem_cons_self
    obtain ⟨ρ', r1, r2, r3, r4⟩ := ci_av_ok g e2
    obtain ⟨s1, s2, s3, s4, s5⟩ := r1
    refine as_locs_ok l _ ρ' ⟨s1, s2, fun j a hm => ?_, s4, s5⟩ (fun j k hm => h j k (List.mem_cons_of_mem _ hm))
    cases List.mem_cons.mp hm with
    | inl e => cases e; exact ⟨v, e1, r2⟩
    | inr hm => exact s3 j a hm
noncomputable def as_stk : List CV → AS → AS
  | [], A => A
  | c :: l, A => ((as_stk l A).1, (as_stk l A).2.1, (ci_av c (as_stk l A).2.2.2.1).1 :: (as_stk l A).2.2.1, (ci_av c (as_stk l A).2.2.2.1).2, (as_stk l A).2.2.2.2)
theorem as_stk_ok {w : AW} {E : AEnv} {pc : Nat} {cl : List (Nat × Value)} {W : pm_H × Nat × Nat} {A : AS} {ρ : Nat → Int} (g : as_r w E ρ A (pc, cl, [], W)) : ∀ (l : List CV) (vs : List Value), f2 cv_g l vs → ∃ ρ', as_r w E ρ' (as_stk l A) (pc, cl, vs, W)
  | [], [], _ => ⟨ρ, g⟩
  | [], _ :: _, h => h.elim
  | _ :: _, [], h => h.elim
  | c :: l, v :: vs, h => by
    obtain ⟨ρ1, g1⟩ := as_stk_ok g l vs h.2
    obtain ⟨ρ', r1, r2, r3, r4⟩ := ci_av_ok g1 h.1
    obtain ⟨s1, s2, s3, s4, s5⟩ := r1
    exact ⟨ρ', s1, s2, s3, ⟨r2, s4⟩, s5⟩
noncomputable def cut_as (pc : Nat) (M : List Rng) (K : List Nat) (c : Cut) : Option AS := match mem_take (as_stk c.2.1 (as_locs c.1 (pc, [], [], [], [], [], c.2.2.2.1, M, K))).2.2.2.1 (as_stk c.2.1 (as_locs c.1 (pc, [], [], [], [], [], c.2.2.2.1, M, K))).2.2.2.2 c.2.2.1 with
  | some (iv, ex) => some (pc, (as_stk c.2.1 (as_locs c.1 (pc, [], [], [], [], [], c.2.2.2.1, M, K))).2.1, (as_stk c.2.1 (as_locs c.1 (pc, [], [], [], [], [], c.2.2.2.1, M, K))).2.2.1, iv, ex)
  | none => none
theorem cut_as_ok {w : AW} {M : List Rng} {K : List Nat} {h0 : pm_H} {c0 : List (Nat × Value)} {c : Cut} {σ : pm_S} (h : cut_g w M K h0 c0 c σ) : ∃ (A : AS) (n : Nat) (ρ : Nat → Int), cut_as σ.1 M K c = some A ∧ as_g w (n, ρ, h0, c0) A σ ∧ (∀ i a, (i, a) ∈ A.2.1 → ∃ v, pm_get σ.2.1 i = some v ∧ av_g n ρ a v) ∧ ∀ q a, (q, a) ∈ A.2.2.2.2.1 → ∃ v, ld σ.2.2.2.1 q.1 q.2 = some v ∧ av_g n ρ a v := by
  obtain ⟨pc, cl, cs, W⟩ := σ
  obtain ⟨h1, h2, h3, h4, h5, h6, h7⟩ := h
  dsimp only at h1 h2 h3 h4 h5 h6 h7
  have g0 : as_r w (0, fun _ => 0, h0, c0) (fun _ => 0) (pc, [], [], [], [], [], c.2.2.2.1, M, K) (pc, cl, [], W) :=
    ⟨⟨fun k lo hi hk => (by cases hk), Nat.le_refl _, fun _ _ => rfl⟩, rfl, fun i a hm => absurd hm List.not_mem_nil, trivial, h3, fun q a hm => absurd hm List.not_mem_nil, fun c hc => absurd hc List.not_mem_nil, h5, h6, h7⟩
  obtain ⟨ρ1, g1⟩ := as_locs_ok c.1 _ _ g0 h1
  obtain ⟨ρ2, g2⟩ := as_stk_ok g1 c.2.1 cs h2
  have hpc : (as_stk c.2.1 (as_locs c.1 (pc, [], [], [], [], [], c.2.2.2.1, M, K))).1 = pc := g2.2.1.symm
  obtain ⟨q, e3, ρ3, g3⟩ := mem_take_ok c.2.2.1 _ _ ρ2 g2 h4
  rw [hpc] at g3
  refine ⟨_, q.1.length, ρ3, by unfold cut_as; rw [e3], ⟨ρ3, ⟨g3.1.1, Nat.le_refl _, fun _ _ => rfl⟩, g3.2⟩, g3.2.2.1, g3.2.2.2.2.2.1⟩
/-- every cut is checked -/
noncomputable def cuts_chk {w : AW} (J : Job w) (N : Nat) : Bool := J.2.2.1.all (fun q => q.2.all (fun c => rk_small c.2.2.2.2 && (match cut_as q.1 J.2.2.2.2.2.2.1 J.2.2.2.2.2.2.2 c with
  | some A => ar_run J (some (A.2.1, A.2.2.2.2.1, c.2.2.2.2)) N A
  | none => false)))
theorem cuts_ok {w : AW} {J : Job w} {call : pm_Call} {N : Nat} {h0 : pm_H} {c0 : List (Nat × Value)} {as : List Value} (hS : ∀ S ∈ J.2.1, sum_g w call S) (hal : f2 (fun (q : Nat × CV) v => cv_g q.2 v ∧ pm_get c0 q.1 = some v) J.2.2.2.2.1 as) (h : cuts_chk J N = true) :
    ∀ (m : Nat) (cl : List Cut) (c : Cut) (σ : pm_S), pm_at J.2.2.1 σ.1 = some cl → c ∈ cl → cut_g w J.2.2.2.2.2.2.1 J.2.2.2.2.2.2.2 h0 c0 c σ → rk_e 8589934592 12 (rk_v σ.2.1 σ.2.2.2.1 c.2.2.2.2) < m → ar_G J call h0 as σ
  | 0, _, _, _, _, _, _, hm => absurd hm (Nat.not_lt_zero _)
  | m + 1, cl, c, σ, hc, hcl, hg, hm => by
    have hone : ∀ (cl : List Cut) (c : Cut) (pc : Nat), pm_at J.2.2.1 pc = some cl → c ∈ cl → rk_small c.2.2.2.2 = true ∧ (match cut_as pc J.2.2.2.2.2.2.1 J.2.2.2.2.2.2.2 c with
        | some A => ar_run J (some (A.2.1, A.2.2.2.2.1, c.2.2.2.2)) N A
        | none => false) = true := by
      intro cl c pc h1 h2
      have h3 := List.all_eq_true.mp (List.all_eq_true.mp h _ (pm_at_in h1)) c h2
      rw [Bool.and_eq_true] at h3
      exact h3
    obtain ⟨s1, s2⟩ := hone cl c σ.1 hc hcl
    obtain ⟨A, n, ρ, e1, e2, e3, e4⟩ := cut_as_ok hg
    rw [e1] at s2
    dsimp only at s2
    refine ar_run_ok (E := (n, ρ, h0, c0)) (cl0 := σ.2.1) (hh0 := σ.2.2.2.1) hS hal (fun l0 m0 rk0 hr => ?_) (fun cl' c' σ' k1 k2 k3 k4 => ?_) N A σ s2 e2
    · cases hr
      exact ⟨e3, e4⟩
    · have h2 := hone cl' c' σ'.1 k1 k2
      have h3 := k4 _ _ _ rfl
      have h4 : rk_e 8589934592 12 (rk_v σ'.2.1 σ'.2.2.2.1 c'.2.2.2.2) < rk_e 8589934592 12 (rk_v σ.2.1 σ.2.2.2.1 c.2.2.2.2) := rk_e_mono (K := 8589934592) (by decide) 12 _ _ (rk_v_lt h2.1) h3
      exact cuts_ok hS hal h m cl' c' σ' k1 k2 k3 (by omega)
/-- arguments in their locals -/
noncomputable def cv_cat (c : CV) : Nat := match c with
  | .inr (.inl _) => 2
  | _ => 1
theorem cv_cat_eq {c : CV} {v : Value} (h : cv_g c v) : v.category = cv_cat c := by
  rcases c with ⟨lo, hi⟩ | ⟨lo, hi⟩ | a | k | ⟨⟩ <;> cases v <;> first | rfl | exact h.elim
noncomputable def arg_lv : Nat → List CV → List (Nat × CV)
  | _, [] => []
  | i, c :: l => (i, c) :: arg_lv (bif Nat.beq (cv_cat c) 2 then i + 2 else i + 1) l
theorem lv_args_ge {j : Nat} {v : Value} : ∀ {vs : List Value} {i : Nat}, pm_get (lv_args i vs) j = some v → i ≤ j
  | [], _, h => by cases h
  | u :: vs, i, h => by
    unfold lv_args pm_get at h
    cases hb : Nat.beq i j with
    | true => exact Nat.le_of_eq (Nat.eq_of_beq_eq_true hb)
    | false =>
      simp only [hb, cond_false] at h
      have := lv_args_ge h
      split at this <;> omega
end
