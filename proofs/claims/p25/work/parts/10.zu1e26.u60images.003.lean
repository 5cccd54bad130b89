section
noncomputable def half_bkQ (h : pm_H) (x v : Int32) : Prop := (half_back h x v ∧ SL h) ∧ IMG h ∧ ((∃ k, k < 3 ∧ v = nJ k ∧ ¬ gi h 88 k = 0 ∧ ST 15 (k + 1) h) ∨ (¬ (∃ k, k < 3 ∧ v = nJ k ∧ ¬ gi h 88 k = 0) ∧ ST 15 0 h))
theorem g8_back {h : pm_H} {v : Int32} (I : IVQ h) : Sp 100 82 h [.ref 0, .int v] (fun h' r => IVh h' ∧ ∃ x : Int32, r = some (.int x) ∧ half_bkQ h' x v) := by
  refine Sp_mono ?_ (Sp_an (d8_back ⟨I.1, I.2.1⟩) (Sp_le (by omega) (Sp_and (tf_all (as := [.ref 0, .int v]) q927 (by decide +kernel) I.1 ⟨rfl, aI _, trivial⟩) (sp_backX8 I.1.1))))
  rintro h' r ⟨⟨q1, x, q2, q3⟩, ⟨-, q4⟩, q5⟩
  have k9 : ∀ r, KE9 r h h' := KE9_fr q4 rfl
  have e88 : ∀ j, gi h' 88 j = gi h 88 j := fun j => fr_gi q4 (rg_no rfl _)
  have e52 : ∀ j, gi h' 52 j = gi h 52 j := fun j => fr_gi q4 (rg_no rfl _)
  have kp := I.2.1.1.2
  refine ⟨q1, x, q2, q3, ?_⟩
  rcases q5 with ⟨k, hk, rfl, nz, c1, k2⟩ | ⟨hr, rfl⟩
  · refine ⟨fun j hj q => ?_, .inl ⟨k, hk, rfl, by rw [e88, ← kp k hk]; exact nz, ST_cp c1 (KE9_c (k9 _)) (I.2.2.2 k hk nz)⟩⟩
    rw [e52] at q
    exact ST_cp (KEE_c (k2 j hj)) (KE9_c (k9 _)) (I.2.2.2 j hj q)
  · refine ⟨I.2.2.2, .inr ⟨?_, I.2.2.1⟩⟩
    rintro ⟨k, hk, e, nz⟩
    exact hr ⟨k, hk, e, by rw [kp k hk]; exact nz⟩
theorem g9_back {h : pm_H} {x v : Int32} (I : IVh h) (J : half_bkQ h x v) : Sp 100 212 h [.ref 77, .int v] (fun h' r => IVQ h' ∧ r = some (.int x)) := by
  refine Sp_mono ?_ (Sp_an (d9_back I J.1) (Sp_le (by omega) (Sp_and (tv_back (d := 0) I.1 I.2.2) (sp_backX9 (d := 0) I.1))))
  rintro h' r ⟨⟨q1, q2⟩, ⟨-, q4, -, -⟩, q5⟩
  obtain ⟨-, im, s⟩ := J
  have cl : clB VM = true := rfl
  have e52 : ∀ j, gi h' 52 j = gi h 52 j := fun j => fr_gi q4 (rg_no rfl _)
  refine ⟨⟨q1.1, q1.2, ?_⟩, q2⟩
  rcases q5 with ⟨k, hk, rfl, nz, c1, k2⟩ | ⟨hr, k2⟩
  · rcases s with ⟨j, hj, e, -, s⟩ | ⟨e, -⟩
    · have e := (nJ_eq (by omega) (by omega)).mp e
      subst e
      refine ⟨ST_cp (KEE_c (KEE_15 q4 cl)) c1 s, fun j hj q => ?_⟩
      rw [e52] at q
      exact ST_cp (KEE_c (KEE_im q4 cl _ hj)) (KE9_c (k2 (j + 1) (by omega) (by omega))) (im j hj q)
    · exact absurd ⟨k, hk, rfl, nz⟩ e
  · rcases s with ⟨j, hj, e, nz, -⟩ | ⟨-, s⟩
    · exact absurd ⟨j, hj, e, nz⟩ hr
    · refine ⟨ST_cp (KEE_c (KEE_15 q4 cl)) (KE9_c (k2 0)) s, fun j hj q => ?_⟩
      rw [e52] at q
      exact ST_cp (KEE_c (KEE_im q4 cl _ hj)) (KE9_c (k2 _)) (im j hj q)
end
section
/-! pairs over the streets' relation, II: street, undo, anew, rate, wants, trades, count (wants t61) -/
theorem prs_inv {T : Nat → Int32} {L : Nat} (f : Nat) : ∀ {n s : Nat} {σ : Sg}, Ws n σ → n ≤ s → s ≤ L → L < s + f → isR (prs T L f n σ s).1 = true → Ws (prs T L f n σ s).2.1 (prs T L f n σ s).2.2 ∧ (prs T L f n σ s).2.1 ≤ L := by
  induction f with
  | zero => intro n s σ _ _ h1 h2; omega
  | succ f ih =>
    intro n s σ W ns sL hL hr
    by_cases b2 : tkk T L s = 0
    · rw [prs_end b2]
      exact ⟨W, by show n ≤ L; omega⟩
    · cases x1 : bS T L (ln T L n σ s).1 with
      | inl e =>
        rw [prs_bad b2 x1] at hr
        cases hr
      | inr s' =>
        obtain ⟨t, et, k3, es⟩ := bS_in x1
        have tl := tkk_lt (T := T) (L := L) (s := t) (by omega)
        have nx := nxt_le (T := T) (Nat.le_of_lt tl)
        have nx2 := nx.2.2 tl
        have ge := ge_ln (T := T) (n := n) (σ := σ) sL
        rw [et] at ge
        have ge1 : s ≤ t := ge.1
        rw [prs_go b2 x1] at hr ⊢
        exact ih (Ws_ln W et) (by omega) (by omega) (by omega) hr
theorem PRS_inv {T : Nat → Int32} {L : Nat} (hr : isR (PRS T L).1 = true) : Ws (PRS T L).2.1 (PRS T L).2.2 ∧ (PRS T L).2.1 ≤ L := by
  have sk := skp_le (T := T) (L := L) (i := 0) (Nat.zero_le _)
  exact prs_inv (L + 1) (.inl ⟨rfl, rfl, rfl, rfl⟩) (Nat.zero_le _) sk.2 (by omega) hr
noncomputable def imB (M : List Rng) : Bool := [25, 26, 27, 28, 29, 30, 31, 32, 33, 34, 35, 36, 37, 38, 39, 40, 41, 42, 43, 44, 45, 46, 47, 48, 49, 50, 51, 52].all (nocell M)
theorem KEE_imB {M : List Rng} {h h' : pm_H} (hf : fr_g M h h') (hb : imB M = true) : ∀ k, k < 3 → KEE (imA k) h h'
  | 0, _ => KEE_fr hf (kB_cl hb (by decide))
  | 1, _ => KEE_fr hf (kB_cl hb (by decide))
  | 2, _ => KEE_fr hf (kB_cl hb (by decide))
theorem IMG_fr {M : List Rng} {h h' : pm_H} (hf : fr_g M h h') (hb : imB M = true) (k9 : ∀ r, 1 ≤ r → r ≤ 3 → KE9 r h h') (R : IMG h) : IMG h' := fun k hk q => by
  rw [fr_gi hf (rg_no (nc_at hb (by decide)) _)] at q
  exact ST_cp (KEE_c (KEE_imB hf hb k hk)) (KE9_c (k9 _ (by omega) (by omega))) (R k hk q)
theorem ST1_k {h h' : pm_H} (c : ∀ k, k ≤ 5 → gi h' 15 k = gi h 15 k) (r0 : gi h' 83 0 = gi h 83 0) (r : ∀ k, k < 5 → gi h' 84 k = gi h 84 k) (S : ST1 15 0 h) : ST1 15 0 h' := by
  obtain ⟨s1, s2, s3, s4, s5⟩ := S
  have e : ∀ k, 6 * 0 + k = k := fun k => by omega
  refine ⟨by rw [c 3 (by omega), r0]; exact s1, fun k hk => ?_, ?_, ?_, ?_⟩
  · have := s2 k hk
    rw [e] at this ⊢
    rw [c k (by omega), r k (by omega)]; exact this
  · rw [c 4 (by omega), r 3 (by omega)]; exact s3
  · rw [c 5 (by omega), r 4 (by omega)]; exact s4
  · rw [c 3 (by omega), gn_eq (c 0 (by omega))]; exact s5
theorem STD_k {h h' : pm_H} (c : gi h' 15 4 = gi h 15 4) (c2 : ∀ i, gi h' 18 i = gi h 18 i) (r : ∀ i, i < 16 → gi h' 85 i = gi h 85 i) (S : STD 15 0 h) : STD 15 0 h' := fun i hi q => by
  rw [gn_eq c] at q
  show gi h' 18 i = gi h' 85 (16 * 0 + (2 * i + 1))
  rw [c2, r _ (by omega)]
  exact S i hi q
/-! street -/
noncomputable def half_stQ (h : pm_H) (x : Int32) : Prop := gn h 1 1 = 0 ∧ KP h ∧ SL h ∧ IMG h ∧ ∃ (T : Nat → Int32) (L : Nat), TB T L h ∧ x = stv (PRS T L) ∧ (isR (PRS T L).1 = true → C0 (PRS T L).2.1 (PRS T L).2.2 h) ∧ (isR (PRS T L).1 = false → ST 15 0 h)
theorem g8_street {h : pm_H} (I : IVQ h) : Sp 100 185 h [.ref 0] (fun h' r => IVh h' ∧ ∃ x : Int32, r = some (.int x) ∧ half_stQ h' x) := by
  have hh : HH h := I.1.1
  have l5 : gn h 1 1 ≤ 500 := gn_hi hh rfl (by decide)
  have A : TA (gi h 2) (gn h 1 1) h := ⟨hh, gi_gn hh rfl (by decide), l5, fun _ _ => rfl⟩
  refine Sp_le (by omega) (Sp_mono ?_ (Sp_and (top_all (as := [.ref 0]) q106 (by decide +kernel) I.1 ⟨rfl, trivial⟩) (sp_street8 (d := 0) A)))
  rintro h' r ⟨⟨s1, s2, -⟩, rfl, hh', g1, -, -, good, bad⟩
  obtain ⟨T1, T2⟩ := I.2.1.1.1
  have k9 : ∀ r, KE9 r h h' := KE9_fr s2 rfl
  refine ⟨s1, _, rfl, gn_of g1 (by omega), KP_fr s2 rfl I.2.1.1.2, SL_fr s2 rfl I.2.1.2, IMG_fr s2 rfl (fun r _ _ => k9 r) I.2.2.2, gi h 2, gn h 1 1, ⟨hh', ?_, l5, fun j hj => ?_⟩, rfl, good, fun q => ?_⟩
  · rw [fr_gi s2 rfl, T1]
    exact gi_gn hh rfl (by decide)
  · rw [fr_gi s2 (rg_no rfl _)]
    exact (T2 j hj).symm
  · exact ST_cp (KEE_c (KEE_15 (bad q) rfl)) (KE9_c (k9 0)) I.2.2.1
theorem g9_street {h : pm_H} {x : Int32} (I : IVh h) (J : half_stQ h x) : Sp 100 354 h [.ref 77] (fun h' r => IVQ h' ∧ r = some (.int x)) := by
  obtain ⟨j1, j2, j3, j4, T, L, B, rfl, good, bad⟩ := J
  have l5 := B.2.2.1
  refine Sp_le (by omega) (Sp_mono ?_ (Sp_and (tv_street (d := 0) I.1 I.2.2) (sp_street9 (d := 0) B)))
  rintro h' r ⟨⟨a1, a2, a3, a4, a5⟩, rfl, -, -, -, -, gd, bd, ro⟩
  have e11 : gn h' 1 1 = gn h 1 1 := fr_gn a2 rfl
  have c : ∀ a k, 15 ≤ a → a ≤ 61 → gi h' a k = gi h a k := fun a k x1 x2 => fr_gi a2 (rg_no (by simp [VMS, VM, show Nat.beq 77 a = false from nbeqF (by omega), show Nat.beq 83 a = false from nbeqF (by omega), show Nat.beq 84 a = false from nbeqF (by omega), show Nat.beq 85 a = false from nbeqF (by omega), show Nat.beq 86 a = false from nbeqF (by omega), show Nat.beq 87 a = false from nbeqF (by omega), show Nat.beq 89 a = false from nbeqF (by omega), show Nat.beq 90 a = false from nbeqF (by omega), show Nat.beq 91 a = false from nbeqF (by omega), show Nat.beq 92 a = false from nbeqF (by omega), show Nat.beq 93 a = false from nbeqF (by omega), show Nat.beq 94 a = false from nbeqF (by omega), show Nat.beq 95 a = false from nbeqF (by omega), show Nat.beq 96 a = false from nbeqF (by omega), show Nat.beq 97 a = false from nbeqF (by omega), show Nat.beq 98 a = false from nbeqF (by omega), show Nat.beq 99 a = false from nbeqF (by omega), show Nat.beq 100 a = false from nbeqF (by omega), show Nat.beq 101 a = false from nbeqF (by omega), show Nat.beq 102 a = false from nbeqF (by omega)]) k)
  refine ⟨⟨IVh_fr (M := VMS) (by decide +kernel) a2 a1 I a3, ⟨⟨⟨by omega, fun j hj => by omega⟩, KP_fr a2 rfl j2⟩, SL_fr a2 rfl j3⟩, ?_, IMG_fr a2 rfl (fun r q1 q2 => ro r q2 q1) j4⟩, rfl⟩
  cases hr : isR (PRS T L).1 with
  | false => exact ST_cp (KEE_c (KEE_15 a2 rfl)) (KE9_c (KE9_st (bd hr) 0 (by omega))) (bad hr)
  | true =>
    obtain ⟨W, nL⟩ := PRS_inv hr
    obtain ⟨p0, p1, p2, p3, p4, p5, p6, pc, pj⟩ := good hr
    obtain ⟨q3, q0, q1, q2, q4, q5, q6, qc, qj⟩ := gd hr
    generalize (PRS T L).2.1 = n at W nL p3 q3
    generalize eσ : (PRS T L).2.2 = σ at W p0 p1 p2 p4 p5 pc pj q0 q1 q2 q4 q5 qc qj
    have cb : σ.1.1 ≤ 8 ∧ σ.2.1.1 ≤ 8 ∧ (σ.1.1 = 0 ↔ n = 0) := by
      rcases W with ⟨w1, w2, w3, -⟩ | ⟨w1, w2, w3, w4, -⟩ <;> omega
    have wt : Wt σ := by rw [← eσ]; exact PRS_wt hr
    have g4 : gn h' 15 4 = σ.2.1.1 := by rw [gn_eq (c 15 4 (by omega) (by omega)), gn_of p4 (by omega)]
    have b5 : gn h' 15 5 ≤ 8 := gn_hi a1 rfl (by decide)
    have g5 : gn h' 15 5 = σ.2.2.1 := by
      have j9 : σ.2.2.1 ≤ 9 := by rcases W with ⟨w1, w2, w3, w4⟩ | ⟨w1, w2, w3, w4, w5, w6, -⟩ <;> omega
      rw [gn_eq (c 15 5 (by omega) (by omega)), gn_of p5 (by omega)]
    have g6 : gn h' 15 6 = 0 := by rw [gn_eq (c 15 6 (by omega) (by omega)), gn_of p6 (by omega)]
    have g0 : gn h' 15 0 = σ.1.1 := by rw [gn_eq (c 15 0 (by omega) (by omega)), gn_of p0 (by omega)]
    refine ⟨⟨?_, fun k hk => ?_, ?_, ?_, ?_⟩, ?_, fun i hi q => ?_, ⟨by omega, b5, by omega⟩, ⟨fun i hi => ?_, fun i hi => ?_⟩, fun i hi => by omega, fun i hi => ?_, fun i hi => by omega, fun i hi => ?_⟩
    · rw [c 15 3 (by omega) (by omega), p3, q3]
    · match k, hk with
      | 0, _ => rw [c 15 0 (by omega) (by omega), p0]; exact q0.symm
      | 1, _ => rw [c 15 1 (by omega) (by omega), p1]; exact q1.symm
      | 2, _ => rw [c 15 2 (by omega) (by omega), p2]; exact q2.symm
    · rw [c 15 4 (by omega) (by omega), p4]; exact q4.symm
    · rw [c 15 5 (by omega) (by omega), p5]; exact q5.symm
    · rw [c 15 3 (by omega) (by omega), p3, gn_eq (c 15 0 (by omega) (by omega)), gn_of p0 (by omega), nJ_toInt (by omega)]
      omega
    · show gi h' 15 6 = gi h' 84 (6 * 0 + 5)
      rw [c 15 6 (by omega) (by omega), p6]; exact q6.symm
    · rw [gn_eq (c 15 4 (by omega) (by omega)), gn_of p4 (by omega)] at q
      show gi h' 18 i = gi h' 85 (16 * 0 + (2 * i + 1))
      rw [c 18 i (by omega) (by omega), (pc i hi q).2.2, show 16 * 0 + (2 * i + 1) = 2 * i + 1 by omega, (qc i hi q).2]
    · show gi h' 16 i = gi h' 85 (16 * 0 + 2 * i)
      rw [c 16 i (by omega) (by omega), (pc i (by omega) (by omega)).1, show 16 * 0 + 2 * i = 2 * i by omega, (qc i (by omega) (by omega)).1]
    · show gi h' 19 i = gi h' 86 (16 * 0 + 2 * i) ∧ gi h' 20 i = gi h' 86 (16 * 0 + (2 * i + 1))
      rw [c 19 i (by omega) (by omega), c 20 i (by omega) (by omega), (pj i (by omega) (by omega)).1, (pj i (by omega) (by omega)).2, show 16 * 0 + 2 * i = 2 * i by omega, show 16 * 0 + (2 * i + 1) = 2 * i + 1 by omega, (qj i (by omega) (by omega)).1, (qj i (by omega) (by omega)).2]
      exact ⟨rfl, rfl⟩
    · show 1 ≤ gn h' 16 i ∧ gn h' 16 i ≤ gn h' 15 0
      have w := wt i (by omega)
      rw [gn_eq (c 16 i (by omega) (by omega)), gn_of (pc i (by omega) (by omega)).1 (by omega), g0]
      exact w
    · show gn h' 17 i = nwF (gn h' 21) (gn h' 22) (gn h' 23) (gn h' 16) (gn h' 15 6) i
      have w := wt i (by omega)
      rw [g6]
      show gn h' 17 i = gn h' 16 i
      rw [gn_eq (c 16 i (by omega) (by omega)), gn_eq (c 17 i (by omega) (by omega)), gn_of (pc i (by omega) (by omega)).1 (by omega), gn_of (pc i (by omega) (by omega)).2.1 (by omega)]
/-! undo, anew -/
end
