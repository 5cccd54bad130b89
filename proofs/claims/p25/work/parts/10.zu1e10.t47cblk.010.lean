section
section RL1
variable {T : Nat → Int32} {L d : Nat} {h : pm_H} {x : Px}
theorem sp_lnH9 {n s : Nat} {σ : Sg} (R : RSt T L (.inr s) h) (D : RDr σ h) (W : Ws n σ) (n0 : n ≠ 0) : Sp (d + 9) 304 h [.ref 77] (fun h' r => r = none ∧ HH h' ∧ fr_g LX h h' ∧ RSt T L (ln T L n σ s).1 h' ∧ (isR (ln T L n σ s).1 = true → RDr (ln T L n σ s).2 h')) := by
  have hh : HH h := R.1.1
  obtain ⟨d0, d1, d2, d3, d4, d5, dc, dj⟩ := id D
  rcases W with ⟨q, -⟩ | ⟨-, p1, p8, cp, wf, rr, nc, ab⟩
  · exact absurd q n0
  have j8 : σ.2.2.1 ≤ 8 := by have := rc_pos wf; omega
  refine Sp_of aiX9_lineHere rfl rfl rfl ?_
  have L0 : pm_get (lv_args 0 [.ref 77]) 0 = some (.ref 77) := rfl
  generalize lv_args 0 [.ref 77] = lv at L0 ⊢
  unfold ln
  rw [nbeqF n0]
  dsimp only [cond_false]
  refine E_al rfl L0 ?_
  refine E_c rfl ?_
  refine E_call rfl (Sp_le (by omega) (sp_iW9 (d := d) (k := 4) R (by decide))) (chk77 hh rfl rfl (by show 0 ≤ 8; decide)) (fun h1 r1 => ?_)
  rintro ⟨e1, f1⟩
  rw [e1, f1]
  cases hc : wIs T L s (wd 4) with
  | true =>
    refine E_ifF rfl (by rw [zb_T (show isX T L (wd 4) (.inr s) = true from hc)]; rfl) ?_
    dsimp only [cond_true]
    refine E_al rfl L0 ?_
    refine E_ci 3 rfl (by decide) ?_
    refine E_call rfl (Sp_le (by omega) (sp_hR (d := d) (k := 3) (v := σ.2.1.1) hh (by decide) d3 (by omega))) (chk77 hh rfl rfl (by show 0 ≤ 8; decide)) (fun h2 r2 => ?_)
    rintro ⟨e2, f2⟩
    rw [e2, f2]
    refine E_al rfl L0 ?_
    refine E_ci 0 rfl (by decide) ?_
    refine E_call rfl (Sp_le (by omega) (sp_hR (d := d) (k := 0) (v := σ.1.1) hh (by decide) d0 (by omega))) (chk77 hh rfl rfl (by show 1 ≤ 8; decide)) (fun h3 r3 => ?_)
    rintro ⟨e3, f3⟩
    rw [e3, f3]
    by_cases ecp : σ.2.1.1 = σ.1.1
    · rw [nbeq.mpr ecp]
      dsimp only [cond_true]
      refine E_icF rfl (decide_eq_false (fun z => z (by rw [ecp]))) ?_
      refine E_al rfl L0 ?_
      refine E_ci 3 rfl (by decide) ?_
      refine E_call rfl (Sp_le (by omega) (sp_fl (d := d) (k := 3) R (by omega) (by omega))) (chk77 hh rfl rfl (by show 0 ≤ 8; decide)) (fun h4 r4 => ?_)
      rintro ⟨e4, f4, R4⟩
      rw [e4]
      have R4 : RSt T L (.inl (3, s)) h4 := R4
      refine E_al rfl L0 ?_
      refine E_gf (q := (0, 3)) rfl R4.1.1 rfl R4.2.1 ?_
      refine E_ifF rfl (by decide) ?_
      exact E_ret rfl ⟨rfl, R4.1.1, fr_wk rfl f4, R4, fun q => by cases q⟩
    · rw [nbeqF ecp]
      dsimp only [cond_false]
      refine E_icT rfl (decide_eq_true (fun z => ecp ((nJ_eq (by omega) (by omega)).mp z))) ?_
      refine E_al rfl L0 ?_
      refine E_gf (q := (0, 3)) rfl hh rfl R.2.2.1 ?_
      refine E_ifT rfl (by decide) ?_
      refine E_al rfl L0 ?_
      refine E_call rfl (Sp_le (by omega) (sp_fwn (d := d) R)) (chk77 hh rfl rfl (by show 0 ≤ 8; decide)) (fun h4 r4 => ?_)
      rintro ⟨e4, f4, R4⟩
      rw [e4]
      have hh4 : HH h4 := R4.1.1
      have D4 := RDr_fr f4 rfl rfl rfl D
      refine E_al rfl L0 ?_
      refine E_call rfl (Sp_le (by omega) (sp_crL (d := d) R4 D4.2.2.2.1 D4.1 (by omega) p8)) (chk77 hh4 rfl rfl (by show 0 ≤ 8; decide)) (fun h5 r5 => ?_)
      rintro ⟨e5, hh5, f5, R5, g5, ga, gb, go⟩
      rw [e5]
      refine E_goto rfl ?_
      refine E_ret rfl ⟨rfl, hh5, fr_trans (fr_wk rfl f4) (fr_wk rfl f5), R5, fun _ => ?_⟩
      obtain ⟨q0, q1, q2, q3, q4, q5, qc, qj⟩ := D4
      refine ⟨by rw [fr_gi f5 rfl]; exact q0, by rw [fr_gi f5 rfl]; exact q1, by rw [fr_gi f5 rfl]; exact q2, g5, by rw [fr_gi f5 rfl]; exact q4, by rw [fr_gi f5 rfl]; exact q5, fun i hi => ?_, fun i hi => ?_⟩
      · have hi : i < σ.2.1.1 + 1 := hi
        dsimp only
        by_cases e : i = σ.2.1.1
        · rw [e, fup_s, fup_s]
          exact ⟨ga, gb⟩
        · rw [fup_n e, fup_n e, go _ (by omega) (by omega), go _ (by omega) (by omega)]
          exact qc i (by omega)
      · rw [fr_gi f5 (rg_no rfl _), fr_gi f5 (rg_no rfl _)]
        exact qj i hi
  | false =>
    refine E_ifT rfl (by rw [zb_F (show ¬ isX T L (wd 4) (.inr s) = true from fun q => by rw [show isX T L (wd 4) (.inr s) = wIs T L s (wd 4) from rfl, hc] at q; cases q)]; rfl) ?_
    dsimp only [cond_false]
    refine E_al rfl L0 ?_
    refine E_c rfl ?_
    refine E_call rfl (Sp_le (by omega) (sp_iW9 (d := d) (k := 7) R (by decide))) (chk77 hh rfl rfl (by show 0 ≤ 8; decide)) (fun h2 r2 => ?_)
    rintro ⟨e2, f2⟩
    rw [e2, f2]
    cases hj : wIs T L s (wd 7) with
    | true =>
      refine E_ifF rfl (by rw [zb_T (show isX T L (wd 7) (.inr s) = true from hj)]; rfl) ?_
      dsimp only [cond_true]
      refine E_al rfl L0 ?_
      refine E_call rfl (Sp_le (by omega) (sp_fwn (d := d) R)) (chk77 hh rfl rfl (by show 0 ≤ 8; decide)) (fun h4 r4 => ?_)
      rintro ⟨e4, f4, R4⟩
      rw [e4]
      have hh4 : HH h4 := R4.1.1
      have D4 := RDr_fr f4 rfl rfl rfl D
      refine E_al rfl L0 ?_
      refine E_call rfl (Sp_le (by omega) (sp_jnL (d := d) R4 D4.1 D4.2.2.2.2.1 p1 p8 j8 D4.2.2.2.2.2.2.2 ab (Ws_j8 wf rr p8))) (chk77 hh4 rfl rfl (by show 0 ≤ 8; decide)) (fun h5 r5 => ?_)
      rintro ⟨e5, hh5, f5, R5, v5⟩
      rw [e5]
      refine E_goto rfl ?_
      refine E_ret rfl ⟨rfl, hh5, fr_trans (fr_wk rfl f4) (fr_wk rfl f5), R5, fun q => ?_⟩
      obtain ⟨jj, g5, ga, gb, go⟩ := v5 q
      obtain ⟨q0, q1, q2, q3, q4, q5, qc, qj⟩ := D4
      refine ⟨by rw [fr_gi f5 rfl]; exact q0, by rw [fr_gi f5 rfl]; exact q1, by rw [fr_gi f5 rfl]; exact q2, by rw [fr_gi f5 rfl]; exact q3, g5, by rw [fr_gi f5 rfl]; exact q5, fun i hi => ?_, fun i hi => ?_⟩
      · rw [fr_gi f5 (rg_no rfl _), fr_gi f5 (rg_no rfl _)]
        exact qc i hi
      · have hi : i < σ.2.2.1 + 1 := hi
        dsimp only
        by_cases e : i = σ.2.2.1
        · rw [e, fup_s, fup_s]
          exact ⟨ga, gb⟩
        · rw [fup_n e, fup_n e, go _ (by omega) (by omega), go _ (by omega) (by omega)]
          exact qj i (by omega)
    | false =>
      refine E_ifT rfl (by rw [zb_F (show ¬ isX T L (wd 7) (.inr s) = true from fun q => by rw [show isX T L (wd 7) (.inr s) = wIs T L s (wd 7) from rfl, hj] at q; cases q)]; rfl) ?_
      dsimp only [cond_false]
      refine E_al rfl L0 ?_
      refine E_ci 1 rfl (by decide) ?_
      refine E_call rfl (Sp_le (by omega) (sp_fl (d := d) (k := 1) R (by omega) (by omega))) (chk77 hh rfl rfl (by show 0 ≤ 8; decide)) (fun h4 r4 => ?_)
      rintro ⟨e4, f4, R4⟩
      rw [e4]
      have R4 : RSt T L (.inl (1, s)) h4 := R4
      exact E_ret rfl ⟨rfl, R4.1.1, fr_wk rfl f4, R4, fun q => by cases q⟩
end RL1
end

