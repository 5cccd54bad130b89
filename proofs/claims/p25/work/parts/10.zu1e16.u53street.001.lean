section
section STS
variable {T : Nat → Int32} {L d : Nat} {h : pm_H}
theorem s9_bad {h0 : pm_H} {e : Nat × Nat} {n : Nat} {σ : Sg} (lv : List (Nat × Value)) (R : RSt T L (.inl e) h) (F : fr_g STM h0 h) (L0 : pm_get lv 0 = some (.ref 77)) : Ends (pm_at tX9_street) (pm_Rt pm_P (d + 10)) (13, lv, [], h, 0, 0) (S9Q (.inl e, n, σ) h0) := by
  have hh : HH h := (RSt_TB R).1
  refine E_al rfl L0 ?_
  refine E_call rfl (Sp_le (by omega) (sp_gd (d := d) R)) (chk77 hh rfl rfl (by show 0 ≤ 8; decide)) (fun h1 r1 => ?_)
  rintro ⟨e1, f1⟩
  rw [e1, f1, isR_l]
  refine E_ifT rfl (by decide) ?_
  exact s9_end lv R (fun q => by cases q) F L0
/-- the head line -/
theorem s9_head {h0 : pm_H} {s : Nat} {σ : Sg} {Q : pm_H → Option Value → Prop} (lv : List (Nat × Value)) (R : RSt T L (.inr s) h) (D : RDr σ h) (c0 : σ.2.1.1 = 0) (j0 : σ.2.2.1 = 0) (g4 : gi h 83 4 = nJ 0) (F : fr_g STM h0 h) (L0 : pm_get lv 0 = some (.ref 77)) (K : ∀ g, HH g → RSt T L (lnH T L (.inr s)).1 g → RDr ((lnH T L (.inr s)).2, σ.2.1, σ.2.2) g → gi g 83 4 = nJ 0 → fr_g STM h0 g → Ends (pm_at tX9_street) (pm_Rt pm_P (d + 10)) (94, lv, [], g, 0, 0) Q) : Ends (pm_at tX9_street) (pm_Rt pm_P (d + 10)) (36, lv, [], h, 0, 0) Q := by
  have hh : HH h := R.1.1
  obtain ⟨q0, q1, q2, q3, q4, q5, qc, qj⟩ := D
  unfold lnH at K
  dsimp only at K
  refine E_al rfl L0 ?_
  refine E_c rfl ?_
  refine E_call rfl (Sp_le (by omega) (sp_aW9 (d := d) (k := 0) R (by decide))) (chk77 hh rfl rfl (by show 0 ≤ 8; decide)) (fun h1 r1 => ?_)
  rintro ⟨e1, f1, R1⟩
  rw [e1]
  have hh1 : HH h1 := (RSt_TB R1).1
  refine E_al rfl L0 ?_
  refine E_ci 0 rfl (by decide) ?_
  refine E_al rfl L0 ?_
  refine E_c rfl ?_
  refine E_ci 1 rfl (by decide) ?_
  refine E_ci 8 rfl (by decide) ?_
  refine E_call rfl (Sp_le (by omega) (sp_nW9 (d := d) (k := 1) (lo := 1) (hi := 8) R1 (by decide) (by omega) (by omega))) (chk77 hh1 rfl rfl (by show 2 ≤ 8; decide)) (fun h2 r2 => ?_)
  rintro ⟨e2, f2, R2, u2, w2⟩
  rw [e2]
  have hh2 : HH h2 := (RSt_TB R2).1
  generalize bV T L 1 8 (bW T L (wd 1) (bW T L (wd 0) (.inr s))) = V1 at u2 w2 K ⊢
  generalize bN T L 1 8 (bW T L (wd 1) (bW T L (wd 0) (.inr s))) = x3 at R2 K
  refine E_call rfl (Sp_le (by omega) (sp_tells (d := d) (k := 0) hh2 (by decide))) (chk77 hh2 rfl rfl (by show 0 ≤ 8; decide)) (fun h3 r3 => ?_)
  rintro ⟨e3, f3⟩
  rw [e3, f3]
  have hh3 : HH (pt h2 84 (24 + 0) (nJ V1)) := HH_ptn hh2 rfl (by omega) (by omega) (by omega)
  have R3 := RSt_pt (by omega) hh3 R2
  have a3 : gi (pt h2 84 (24 + 0) (nJ V1)) 84 24 = nJ V1 := gi_ptn hh2 rfl (by omega) (by omega) (by omega)
  have o3 : ∀ a k, 83 ≤ a → (a = 84 → k ≠ 24) → gi (pt h2 84 (24 + 0) (nJ V1)) a k = gi h a k := fun a k ha hk => by
    rw [gi_ne (fun z => by have := hk z; omega), fr_gi f2 (rg_no (by have : Nat.beq 77 a = false := nbeqF (by omega); simp [BB, this]) _), fr_gi f1 (rg_no (by have : Nat.beq 77 a = false := nbeqF (by omega); simp [BB, this]) _)]
  have F3 : fr_g STM h0 (pt h2 84 (24 + 0) (nJ V1)) := fr_ptr (l := 24) (u := 29) rfl (by omega) (by omega) (fr_trans F (fr_trans (fr_wk rfl f1) (fr_wk rfl f2)))
  generalize pt h2 84 (24 + 0) (nJ V1) = g3 at hh3 R3 a3 o3 F3 ⊢
  refine E_al rfl L0 ?_
  refine E_ci 1 rfl (by decide) ?_
  refine E_al rfl L0 ?_
  refine E_c rfl ?_
  refine E_ci 0 rfl (by decide) ?_
  refine E_ci 3 rfl (by decide) ?_
  refine E_call rfl (Sp_le (by omega) (sp_nW9 (d := d) (k := 2) (lo := 0) (hi := 3) R3 (by decide) (by omega) (by omega))) (chk77 hh3 rfl rfl (by show 2 ≤ 8; decide)) (fun h4 r4 => ?_)
  rintro ⟨e4, f4, R4, u4, w4⟩
  rw [e4]
  have hh4 : HH h4 := (RSt_TB R4).1
  generalize bV T L 0 3 (bW T L (wd 2) x3) = V2 at u4 w4 K ⊢
  generalize bN T L 0 3 (bW T L (wd 2) x3) = x5 at R4 K
  refine E_call rfl (Sp_le (by omega) (sp_tells (d := d) (k := 1) hh4 (by decide))) (chk77 hh4 rfl rfl (by show 0 ≤ 8; decide)) (fun h5 r5 => ?_)
  rintro ⟨e5, f5⟩
  rw [e5, f5]
  have hh5 : HH (pt h4 84 (24 + 1) (nJ V2)) := HH_ptn hh4 rfl (by omega) (by omega) (by omega)
  have R5 := RSt_pt (by omega) hh5 R4
  have a5 : gi (pt h4 84 (24 + 1) (nJ V2)) 84 24 = nJ V1 := by rw [gi_ne (by omega), fr_gi f4 (rg_no rfl _)]; exact a3
  have b5 : gi (pt h4 84 (24 + 1) (nJ V2)) 84 25 = nJ V2 := gi_ptn hh4 rfl (by omega) (by omega) (by omega)
  have o5 : ∀ a k, 83 ≤ a → (a = 84 → 26 ≤ k) → gi (pt h4 84 (24 + 1) (nJ V2)) a k = gi h a k := fun a k ha hk => by
    rw [gi_ne (fun z => by have := hk z; omega), fr_gi f4 (rg_no (by have : Nat.beq 77 a = false := nbeqF (by omega); simp [BB, this]) _)]
    exact o3 a k ha (fun z => by have := hk z; omega)
  have F5 : fr_g STM h0 (pt h4 84 (24 + 1) (nJ V2)) := fr_ptr (l := 24) (u := 29) rfl (by omega) (by omega) (fr_trans F3 (fr_wk rfl f4))
  generalize pt h4 84 (24 + 1) (nJ V2) = g5 at hh5 R5 a5 b5 o5 F5 ⊢
  refine E_al rfl L0 ?_
  refine E_ci 2 rfl (by decide) ?_
  refine E_al rfl L0 ?_
  refine E_c rfl ?_
  refine E_ci 0 rfl (by decide) ?_
  refine E_ci 10 rfl (by decide) ?_
  refine E_call rfl (Sp_le (by omega) (sp_nW9 (d := d) (k := 3) (lo := 0) (hi := 10) R5 (by decide) (by omega) (by omega))) (chk77 hh5 rfl rfl (by show 2 ≤ 8; decide)) (fun h6 r6 => ?_)
  rintro ⟨e6, f6, R6, u6, w6⟩
  rw [e6]
  have hh6 : HH h6 := (RSt_TB R6).1
  generalize bV T L 0 10 (bW T L (wd 3) x5) = V3 at u6 w6 K ⊢
  generalize bN T L 0 10 (bW T L (wd 3) x5) = x7 at R6 K
  refine E_call rfl (Sp_le (by omega) (sp_tells (d := d) (k := 2) hh6 (by decide))) (chk77 hh6 rfl rfl (by show 0 ≤ 8; decide)) (fun h7 r7 => ?_)
  rintro ⟨e7, f7⟩
  rw [e7, f7]
  have hh7 : HH (pt h6 84 (24 + 2) (nJ V3)) := HH_ptn hh6 rfl (by omega) (by omega) (by omega)
  have R7 := RSt_pt (by omega) hh7 R6
  have o7 : ∀ a k, 83 ≤ a → (a = 84 → 27 ≤ k) → gi (pt h6 84 (24 + 2) (nJ V3)) a k = gi h a k := fun a k ha hk => by
    rw [gi_ne (fun z => by have := hk z; omega), fr_gi f6 (rg_no (by have : Nat.beq 77 a = false := nbeqF (by omega); simp [BB, this]) _)]
    exact o5 a k ha (fun z => by have := hk z; omega)
  refine E_goto rfl ?_
  refine K _ hh7 R7 ⟨?_, ?_, ?_, ?_, ?_, ?_, fun i hi => ?_, fun i hi => ?_⟩ ?_ (fr_ptr (l := 24) (u := 29) rfl (by omega) (by omega) (fr_trans F5 (fr_wk rfl f6)))
  · rw [gi_ne (by omega), fr_gi f6 (rg_no rfl _)]; exact a5
  · rw [gi_ne (by omega), fr_gi f6 (rg_no rfl _)]; exact b5
  · exact gi_ptn hh6 rfl (by omega) (by omega) (by omega)
  · rw [o7 _ _ (by omega) (by omega)]; exact q3
  · rw [o7 _ _ (by omega) (by omega)]; exact q4
  · rw [o7 _ _ (by omega) (by omega)]; exact q5
  · have hi : i < σ.2.1.1 := hi
    omega
  · have hi : i < σ.2.2.1 := hi
    omega
  · rw [o7 _ _ (by omega) (by omega)]; exact g4
theorem s9_loop {h0 : pm_H} (f : Nat) : ∀ {h : pm_H} {n s : Nat} {σ : Sg} (lv : List (Nat × Value)), RSt T L (.inr s) h → RDr σ h → Ws n σ → gi h 83 4 = nJ n → n ≤ s → fr_g STM h0 h → L < s + f → pm_get lv 0 = some (.ref 77) → Ends (pm_at tX9_street) (pm_Rt pm_P (d + 10)) (13, lv, [], h, 0, 0) (S9Q (prs T L f n σ s) h0) := by
  induction f with
  | zero =>
    intro h n s σ lv R _ _ _ _ _ hL
    have := R.2.2.2
    omega
  | succ f ih =>
    intro h n s σ lv R D W g4 ns F hL L0
    have hh : HH h := R.1.1
    have h5 := R.1.2.2.1
    have hs := R.2.2.2
    have t8 := R.2.1.2.2.1
    have hkk := tkk_le (T := T) (L := L) (s := s)
    refine E_al rfl L0 ?_
    refine E_call rfl (Sp_le (by omega) (sp_gd (d := d) R)) (chk77 hh rfl rfl (by show 0 ≤ 8; decide)) (fun h1 r1 => ?_)
    rintro ⟨e1, f1⟩
    rw [e1, f1, isR_r]
    refine E_ifF rfl (by decide) ?_
    refine E_al rfl L0 ?_
    refine E_gf (q := (0, 4)) rfl hh rfl t8 ?_
    by_cases b2 : tkk T L s = 0
    · refine E_ifT rfl (decide_eq_true ((nJ_eq0 (by omega)).mpr b2)) ?_
      rw [prs_end b2]
      exact s9_end lv R (fun _ => ⟨D, g4⟩) F L0
    refine E_ifF rfl (decide_eq_false (fun z => b2 ((nJ_eq0 (by omega)).mp z))) ?_
    have sl := tkk_lt b2
    /- the count of lines, and the next round -/
    have more : ∀ {x : Px} {g : pm_H}, bS T L (ln T L n σ s).1 = x → RSt T L x g → gi g 83 4 = nJ n → fr_g STM h0 g → (isR x = true → RDr (ln T L n σ s).2 g) → Ends (pm_at tX9_street) (pm_Rt pm_P (d + 10)) (105, lv, [], g, 0, 0) (S9Q (prs T L (f + 1) n σ s) h0) := by
      intro x g ex Rg gg Fg Dg
      have hg : HH g := (RSt_TB Rg).1
      refine E_al rfl L0 ?_
      refine E_gr rfl hg (q := 83) rfl ?_
      refine E_ci 4 rfl (by decide) ?_
      refine E_dup2 rfl rfl rfl ?_
      refine E_ial rfl hg rfl (by omega) (by decide) gg ?_
      refine E_ci 1 rfl (by decide) ?_
      refine E_bin rfl (nJ_add _ _) ?_
      refine E_ias rfl hg rfl (by omega) (by decide) ?_
      have b83 : bd 83 4 = some ((-2147483648), 2147483647) := rfl
      have hh2 : HH (pt g 83 4 (nJ (n + 1))) := HH_ptn hg b83 (by omega) (by omega) (by omega)
      refine E_goto rfl ?_
      have R2 := RSt_pt (by omega) hh2 Rg
      have F2 : fr_g STM h0 (pt g 83 4 (nJ (n + 1))) := fr_ptr (l := 4) (u := 4) rfl (by omega) (by omega) Fg
      match x, ex, R2, Dg with
      | .inl e, ex, R2, _ =>
        rw [prs_bad b2 ex]
        exact s9_bad lv R2 F2 L0
      | .inr s', ex, R2, Dg =>
        obtain ⟨t, et, k3, es⟩ := bS_in ex
        have tl := tkk_lt (T := T) (L := L) (s := t) (by omega)
        have nx := nxt_le (T := T) (Nat.le_of_lt tl)
        have nx2 := nx.2.2 tl
        have ge := ge_ln (T := T) (n := n) (σ := σ) hs
        rw [et] at ge
        have ge1 : s ≤ t := ge.1
        rw [prs_go b2 ex]
        refine ih lv R2 ?_ (Ws_ln W et) (gi_ptn hg b83 (by omega) (by omega) (by omega)) (by omega) F2 (by omega) L0
        obtain ⟨q0, q1, q2, q3, q4, q5, qc, qj⟩ := Dg rfl
        exact ⟨by rw [gi_ne (by omega)]; exact q0, by rw [gi_ne (by omega)]; exact q1, by rw [gi_ne (by omega)]; exact q2, by rw [gi_ne (by omega)]; exact q3, by rw [gi_ne (by omega)]; exact q4, by rw [gi_ne (by omega)]; exact q5, fun i hi => by rw [gi_ne (by omega), gi_ne (by omega)]; exact qc i hi, fun i hi => by rw [gi_ne (by omega), gi_ne (by omega)]; exact qj i hi⟩
    /- behind the line -/
    have behind : ∀ {g : pm_H}, RSt T L (ln T L n σ s).1 g → gi g 83 4 = nJ n → fr_g STM h0 g → (isR (ln T L n σ s).1 = true → RDr (ln T L n σ s).2 g) → Ends (pm_at tX9_street) (pm_Rt pm_P (d + 10)) (94, lv, [], g, 0, 0) (S9Q (prs T L (f + 1) n σ s) h0) := by
      intro g Rg gg Fg Dg
      have hg : HH g := (RSt_TB Rg).1
      refine E_al rfl L0 ?_
      refine E_call rfl (Sp_le (by omega) (sp_gd (d := d) Rg)) (chk77 hg rfl rfl (by show 0 ≤ 8; decide)) (fun h2 r2 => ?_)
      rintro ⟨e2, f2⟩
      rw [e2, f2]
      cases x1 : (ln T L n σ s).1 with
      | inl e =>
        rw [x1] at Rg
        rw [isR_l]
        refine E_ifT rfl (by decide) ?_
        exact more (x := .inl e) (by rw [x1]; rfl) Rg gg Fg (fun q => by cases q)
      | inr t =>
        have Dg := Dg (by rw [x1]; rfl)
        rw [x1] at Rg
        rw [isR_r]
        refine E_ifF rfl (by decide) ?_
        refine E_al rfl L0 ?_
        refine E_call rfl (Sp_le (by omega) (sp_cl (d := d) Rg)) (chk77 hg rfl rfl (by show 0 ≤ 8; decide)) (fun h3 r3 => ?_)
        rintro ⟨e3, f3, R3⟩
        rw [e3]
        exact more (x := bS T L (.inr t)) (by rw [x1]) R3 (by rw [fr_gi f3 (rg_no rfl _)]; exact gg) (fr_trans Fg (fr_wk rfl f3)) (fun _ => RDr_fr f3 rfl rfl rfl Dg)
    refine E_al rfl L0 ?_
    refine E_gr rfl hh (q := 83) rfl ?_
    refine E_ci 4 rfl (by decide) ?_
    refine E_ial rfl hh rfl (by omega) (by decide) g4 ?_
    by_cases n0 : n = 0
    · subst n0
      refine E_ifF rfl (by decide) ?_
      rcases W with ⟨-, p0, c0, j0⟩ | ⟨q, -⟩
      · exact s9_head lv R D c0 j0 g4 F L0 (fun g _ Rg Dg gg Fg => behind Rg gg Fg (fun _ => Dg))
      · exact absurd rfl q
    · refine E_ifT rfl (decide_eq_true (fun z => n0 ((nJ_eq0 (by omega)).mp z))) ?_
      refine E_al rfl L0 ?_
      refine E_call rfl (Sp_le (by omega) (sp_lnH9 (d := d) R D W n0)) (chk77 hh rfl rfl (by show 0 ≤ 8; decide)) (fun h2 r2 => ?_)
      rintro ⟨e2, hh2, f2, R2, D2⟩
      rw [e2]
      exact behind R2 (by rw [fr_gi f2 (rg_no rfl _)]; exact g4) (fr_trans F (fr_wk rfl f2)) D2
end STS
end
