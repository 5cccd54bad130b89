section
/-- what a check speaks of: rows, what is known of calls, cuts, where answers are told apart, arguments in their locals, cases; what may be stored to, locals that stay -/
noncomputable abbrev Job (w : AW) : Type := List (Nat × AR w) × List Sum1 × List (Nat × List Cut) × List Nat × List (Nat × CV) × List Cs × List Rng × List Nat
noncomputable def nx_chk {w : AW} (J : Job w) (r0 : Option (List (Nat × AV) × Mem × RK)) (go : AS → Bool) (B : AS) : Bool := match pm_at J.2.2.1 B.1 with
  | some cl => decide (B.2.2.2.2.2.2.2 = J.2.2.2.2.2.2) && cl.any (fun c => cut_le B c && (match r0 with | some (l0, m0, rk0) => rk_chk l0 m0 B.2.1 B.2.2.2.2.1 12 c.2.2.2.2 rk0 | none => true))
  | none => go B
noncomputable def ar_run {w : AW} (J : Job w) (r0 : Option (List (Nat × AV) × Mem × RK)) : Nat → AS → Bool
  | 0, _ => false
  | n + 1, A => match pm_at J.1 A.1 with
    | none => false
    | some (.inl r) => match r.1.2.1 A with
      | none => false
      | some As => match sp_do J.2.2.2.1 A.1 As with
        | none => false
        | some Bs => Bs.all (nx_chk J r0 (ar_run J r0 n))
    | some (.inr (.inl (y, k, ci, mc, ms))) => match call_do w J.2.1 A y k ci mc ms with
      | none => false
      | some As => match sp_do J.2.2.2.1 A.1 As with
        | none => false
        | some Bs => Bs.all (nx_chk J r0 (ar_run J r0 n))
    | some (.inr (.inr kd)) => decide (A.2.2.2.2.2.2.2 = J.2.2.2.2.2.2) && rt_chk kd A J.2.2.2.2.1 J.2.2.2.2.2.1
/-- it runs to an answer -/
noncomputable def ar_G {w : AW} (J : Job w) (call : pm_Call) (h0 : pm_H) (as : List Value) (σ : pm_S) : Prop := ∃ o, pm_Go (pm_at (ar_tab J.1)) call σ o ∧ hs_g w.1.1 o.1 ∧ fr_g J.2.2.2.2.2.2.1 h0 o.1 ∧ ∃ C ∈ J.2.2.2.2.2.1, cs_g w as o.1 o.2 C
theorem rt_chk_ok {w : AW} {J : Job w} {E : AEnv} {A : AS} {σ : pm_S} {kd : Nat} {as : List Value} (g : as_g w E A σ) (hMK : A.2.2.2.2.2.2.2 = J.2.2.2.2.2.2) (hal : f2 (fun (q : Nat × CV) v => cv_g q.2 v ∧ pm_get E.2.2.2 q.1 = some v) J.2.2.2.2.1 as) (h : rt_chk kd A J.2.2.2.2.1 J.2.2.2.2.2.1 = true) : ∃ o, pm_ret kd σ.2.2.1 σ.2.2.2.1 o ∧ hs_g w.1.1 o.1 ∧ fr_g J.2.2.2.2.2.2.1 E.2.2.1 o.1 ∧ ∃ C ∈ J.2.2.2.2.2.1, cs_g w as o.1 o.2 C := by
  obtain ⟨C, hC, hb⟩ := List.any_eq_true.mp h
  rw [Bool.and_eq_true, Bool.and_eq_true, Bool.and_eq_true] at hb
  obtain ⟨b1, b2, b3, b4⟩ := hb
  obtain ⟨o, e1, e2, e3⟩ := rt_one_ok g b4
  have c1 := ag_chk_ok g hal b1
  obtain ⟨ρ, g1, g2, g3, g4, g5⟩ := g
  have c2 := mm_le_ok g1 g5 b2
  have c3 : ∀ i ∈ C.2.2.1, w.1.2.1 i σ.2.2.2.1 := fun i hi => g5.2.2.2.1 i (by have := List.all_eq_true.mp b3 i hi; simpa using this)
  have c5 := g5.2.2.2.2.1
  rw [hMK] at c5
  rw [← e2] at c2 c3 c5
  exact ⟨o, e1, by rw [e2]; exact g5.1, c5, C, hC, c1, c2, c3, e3⟩
theorem ar_run_ok {w : AW} {J : Job w} {r0 : Option (List (Nat × AV) × Mem × RK)} {call : pm_Call} {E : AEnv} {as : List Value} {cl0 : List (Nat × Value)} {hh0 : pm_H}
    (hS : ∀ S ∈ J.2.1, sum_g w call S) (hal : f2 (fun (q : Nat × CV) v => cv_g q.2 v ∧ pm_get E.2.2.2 q.1 = some v) J.2.2.2.2.1 as)
    (h0 : ∀ l0 m0 rk0, r0 = some (l0, m0, rk0) → (∀ i a, (i, a) ∈ l0 → ∃ v, pm_get cl0 i = some v ∧ av_g E.1 E.2.1 a v) ∧ ∀ q a, (q, a) ∈ m0 → ∃ v, ld hh0 q.1 q.2 = some v ∧ av_g E.1 E.2.1 a v)
    (K : ∀ (cl : List Cut) (c : Cut) (σ : pm_S), pm_at J.2.2.1 σ.1 = some cl → c ∈ cl → cut_g w J.2.2.2.2.2.2.1 J.2.2.2.2.2.2.2 E.2.2.1 E.2.2.2 c σ → (∀ l0 m0 rk0, r0 = some (l0, m0, rk0) → rk_lt 12 (rk_v σ.2.1 σ.2.2.2.1 c.2.2.2.2) (rk_v cl0 hh0 rk0)) → ar_G J call E.2.2.1 as σ) :
    ∀ (n : Nat) (A : AS) (σ : pm_S), ar_run J r0 n A = true → as_g w E A σ → ar_G J call E.2.2.1 as σ
  | 0, _, _, h, _ => by cases h
  | n + 1, A, σ, h, g => by
    have nx : ∀ (B : AS) (τ : pm_S), nx_chk J r0 (ar_run J r0 n) B = true → as_g w E B τ → ar_G J call E.2.2.1 as τ := by
      intro B τ hB gB
      unfold nx_chk at hB
      cases hc : pm_at J.2.2.1 B.1 with
      | none =>
        rw [hc] at hB
        exact ar_run_ok hS hal h0 K n B τ hB gB
      | some cl =>
        rw [hc] at hB
        dsimp only at hB
        rw [Bool.and_eq_true] at hB
        have hMK := of_decide_eq_true hB.1
        obtain ⟨c, hcm, hcb⟩ := List.any_eq_true.mp hB.2
        rw [Bool.and_eq_true] at hcb
        have hg := cut_le_ok gB hcb.1
        rw [hMK] at hg
        obtain ⟨ρ, g1, g2, g3, g4, g5⟩ := gB
        refine K cl c τ (by rw [g2]; exact hc) hcm hg (fun l0 m0 rk0 hr => ?_)
        have hr2 := hcb.2
        rw [hr] at hr2
        dsimp only at hr2
        have := h0 l0 m0 rk0 hr
        exact rk_chk_ok (fun k hk => g1.2.2 k hk) this.1 this.2 g3 g5.2.1 12 c.2.2.2.2 rk0 hr2
    have many : ∀ (As Bs : List AS) (τ : pm_S) (B : AS), sp_do J.2.2.2.1 A.1 As = some Bs → Bs.all (nx_chk J r0 (ar_run J r0 n)) = true → B ∈ As → as_g w E B τ → ar_G J call E.2.2.1 as τ := by
      intro As Bs τ B hsp hall hB gB
      obtain ⟨C, hC, gC⟩ := sp_do_ok gB hsp hB
      exact nx C τ (List.all_eq_true.mp hall C hC) gC
    have gpc : σ.1 = A.1 := by obtain ⟨ρ, g1, g2, g3, g4, g5⟩ := g; exact g2
    unfold ar_run at h
    cases ht : pm_at J.1 A.1 with
    | none => rw [ht] at h; cases h
    | some x =>
      rw [ht] at h
      have hl := ar_at ht
      rw [← gpc] at hl
      match x, hl, h with
      | .inl r, hl, h =>
        dsimp only at h
        cases hA : r.1.2.1 A with
        | none => rw [hA] at h; cases h
        | some As =>
          rw [hA] at h
          dsimp only at h
          cases hsp : sp_do J.2.2.2.1 A.1 As with
          | none => rw [hsp] at h; cases h
          | some Bs =>
            rw [hsp] at h
            dsimp only at h
            obtain ⟨σ', e1, A', e2, e3⟩ := r.2.1 E A σ As g hA
            obtain ⟨o, o1, o2⟩ := many As Bs σ' A' hsp h e2 e3
            exact ⟨o, Go_st hl e1 o1, o2⟩
      | .inr (.inl (y, k, ci, mc, ms)), hl, h =>
        dsimp only at h
        cases hA : call_do w J.2.1 A y k ci mc ms with
        | none => rw [hA] at h; cases h
        | some As =>
          rw [hA] at h
          dsimp only at h
          cases hsp : sp_do J.2.2.2.1 A.1 As with
          | none => rw [hsp] at h; cases h
          | some Bs =>
            rw [hsp] at h
            dsimp only at h
            obtain ⟨h', r, e1, e2, B, hB, e3⟩ := call_do_ok hS g hA
            obtain ⟨o, o1, o2⟩ := many As Bs _ B hsp h hB e3
            exact ⟨o, Go_call hl e1 e2 o1, o2⟩
      | .inr (.inr kd), hl, h =>
        dsimp only at h
        rw [Bool.and_eq_true] at h
        obtain ⟨o, o1, o2⟩ := rt_chk_ok g (of_decide_eq_true h.1) hal h.2
        exact ⟨o, Go_ret hl o1, o2⟩
end
