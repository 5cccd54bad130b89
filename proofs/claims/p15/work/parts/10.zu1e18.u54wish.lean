/-! what a street tells is within its bounds (wants t50, t53) -/
noncomputable def Wt (σ : Sg) : Prop := ∀ i, i < σ.2.1.1 → 1 ≤ σ.2.1.2.1 i ∧ σ.2.1.2.1 i ≤ σ.1.1
theorem Wt_ln {T : Nat → Int32} {L n s t : Nat} {σ : Sg} (W : Ws n σ) (V : Wt σ) (e : (ln T L n σ s).1 = .inr t) : Wt (ln T L n σ s).2 := by
  rcases W with ⟨n0, p0, c0, j0⟩ | ⟨n0, p1, p8, cp, wf, rr, nc, ab⟩
  · subst n0
    have ec : (ln T L 0 σ s).2.2.1 = σ.2.1 := rfl
    intro i hi
    rw [ec, c0] at hi
    exact absurd hi (Nat.not_lt_zero i)
  · have nb : Nat.beq n 0 = false := nbeqF n0
    unfold ln at e ⊢
    rw [nb] at e ⊢
    dsimp only [cond_false] at e ⊢
    cases hc : wIs T L s (wd 4) with
    | true =>
      rw [hc] at e
      dsimp only [cond_true] at e ⊢
      by_cases ecp : σ.2.1.1 = σ.1.1
      · rw [nbeq.mpr ecp] at e
        cases e
      · rw [nbeqF ecp] at e ⊢
        dsimp only [cond_false] at e ⊢
        have e : bN T L 0 99 (bW T L (wd 6) (bN T L 1 σ.1.1 (bW T L (wd 5) (.inr (nxt T L s))))) = .inr t := e
        obtain ⟨t1, e1, -, -⟩ := bN_in e
        obtain ⟨t2, e2, -, -⟩ := bW_in e1
        obtain ⟨t3, e3, ok, -⟩ := bN_in e2
        have v := okN_v ok
        rw [← e3] at v
        intro i hi
        show 1 ≤ fup σ.2.1.2.1 σ.2.1.1 (bV T L 1 σ.1.1 (bW T L (wd 5) (.inr (nxt T L s)))) i ∧ fup σ.2.1.2.1 σ.2.1.1 (bV T L 1 σ.1.1 (bW T L (wd 5) (.inr (nxt T L s)))) i ≤ σ.1.1
        by_cases q : i = σ.2.1.1
        · rw [q, fup_s]; exact v
        · have hi : i < σ.2.1.1 + 1 := hi
          rw [fup_n q]; exact V i (by omega)
    | false =>
      rw [hc] at e
      dsimp only [cond_false] at e ⊢
      cases hj : wIs T L s (wd 7) with
      | false =>
        rw [hj] at e
        cases e
      | true =>
        dsimp only [cond_true]
        exact V
theorem prs_wt {T : Nat → Int32} {L : Nat} (f : Nat) : ∀ {n s : Nat} {σ : Sg}, Ws n σ → Wt σ → isR (prs T L f n σ s).1 = true → Wt (prs T L f n σ s).2.2 := by
  induction f with
  | zero => intro n s σ _ V _; exact V
  | succ f ih =>
    intro n s σ W V hr
    by_cases b2 : tkk T L s = 0
    · rw [prs_end b2]
      exact V
    · cases x1 : bS T L (ln T L n σ s).1 with
      | inl e =>
        rw [prs_bad b2 x1] at hr
        cases hr
      | inr s' =>
        obtain ⟨t, et, k3, es⟩ := bS_in x1
        rw [prs_go b2 x1] at hr ⊢
        exact ih (Ws_ln W et) (Wt_ln W V et) hr
theorem PRS_wt {T : Nat → Int32} {L : Nat} (hr : isR (PRS T L).1 = true) : Wt (PRS T L).2.2 :=
  prs_wt (L + 1) (.inl ⟨rfl, rfl, rfl, rfl⟩) (fun i hi => absurd hi (Nat.not_lt_zero i)) hr
