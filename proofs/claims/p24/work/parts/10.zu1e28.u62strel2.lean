section
/-! pairs over the streets' relation, II: street, undo, anew, rate, wants, trades, count (wants t61) -/
theorem prs_inv {T : Nat → Int32} {L : Nat} (f : Nat) : ∀ {n s : Nat} {σ : Sg}, Ws n σ → n ≤ s → s ≤ L → L < s + f → isR (prs T L f n σ s).1 = true → Ws (prs T L f n σ s).2.1 (prs T L f n σ s).2.2 ∧ (prs T L f n σ s).2.1 ≤ L := by
  induction f with
  | zero => intro n s σ _ _ h1 h2; omega
  | succ f ih =>
    intro n s σ W ns sL hL hr
    by_cases b2 : tkk T L s = 0
    · rw [prs_end b2]
      exact ⟨W, by show n ≤ L; omega⟩
    · cases x1 : bS T L (ln T L n σ s).1 with
      | inl e =>
        rw [prs_bad b2 x1] at hr
        cases hr
      | inr s' =>
        obtain ⟨t, et, k3, es⟩ := bS_in x1
        have tl := tkk_lt (T := T) (L := L) (s := t) (by omega)
        have nx := nxt_le (T := T) (Nat.le_of_lt tl)
        have nx2 := nx.2.2 tl
        have ge := ge_ln (T := T) (n := n) (σ := σ) sL
        rw [et] at ge
        have ge1 : s ≤ t := ge.1
        rw [prs_go b2 x1] at hr ⊢
        exact ih (Ws_ln W et) (by omega) (by omega) (by omega) hr
theorem PRS_inv {T : Nat → Int32} {L : Nat} (hr : isR (PRS T L).1 = true) : Ws (PRS T L).2.1 (PRS T L).2.2 ∧ (PRS T L).2.1 ≤ L := by
  have sk := skp_le (T := T) (L := L) (i := 0) (Nat.zero_le _)
  exact prs_inv (L + 1) (.inl ⟨rfl, rfl, rfl, rfl⟩) (Nat.zero_le _) sk.2 (by omega) hr
noncomputable def imB (M : List Rng) : Bool := [25, 26, 27, 28, 29, 30, 31, 32, 33, 34, 35, 36, 37, 38, 39, 40, 41, 42, 43, 44, 45, 46, 47, 48, 49, 50, 51, 52].all (nocell M)
theorem KEE_imB {M : List Rng} {h h' : pm_H} (hf : fr_g M h h') (hb : imB M = true) : ∀ k, k < 3 → KEE (imA k) h h'
  | 0, _ => KEE_fr hf (kB_cl hb (by decide))
  | 1, _ => KEE_fr hf (kB_cl hb (by decide))
  | 2, _ => KEE_fr hf (kB_cl hb (by decide))
theorem IMG_fr {M : List Rng} {h h' : pm_H} (hf : fr_g M h h') (hb : imB M = true) (k9 : ∀ r, 1 ≤ r → r ≤ 3 → KE9 r h h') (R : IMG h) : IMG h' := fun k hk q => by
  rw [fr_gi hf (rg_no (nc_at hb (by decide)) _)] at q
  exact ST_cp (KEE_c (KEE_imB hf hb k hk)) (KE9_c (k9 _ (by omega) (by omega))) (R k hk q)
theorem ST1_k {h h' : pm_H} (c : ∀ k, k ≤ 5 → gi h' 15 k = gi h 15 k) (r0 : gi h' 83 0 = gi h 83 0) (r : ∀ k, k < 5 → gi h' 84 k = gi h 84 k) (S : ST1 15 0 h) : ST1 15 0 h' := by
  obtain ⟨s1, s2, s3, s4, s5⟩ := S
  have e : ∀ k, 6 * 0 + k = k := fun k => by omega
  refine ⟨by rw [c 3 (by omega), r0]; exact s1, fun k hk => ?_, ?_, ?_, ?_⟩
  · have := s2 k hk
    rw [e] at this ⊢
    rw [c k (by omega), r k (by omega)]; exact this
  · rw [c 4 (by omega), r 3 (by omega)]; exact s3
  · rw [c 5 (by omega), r 4 (by omega)]; exact s4
  · rw [c 3 (by omega), gn_eq (c 0 (by omega))]; exact s5
theorem STD_k {h h' : pm_H} (c : gi h' 15 4 = gi h 15 4) (c2 : ∀ i, gi h' 18 i = gi h 18 i) (r : ∀ i, i < 16 → gi h' 85 i = gi h 85 i) (S : STD 15 0 h) : STD 15 0 h' := fun i hi q => by
  rw [gn_eq c] at q
  show gi h' 18 i = gi h' 85 (16 * 0 + (2 * i + 1))
  rw [c2, r _ (by omega)]
  exact S i hi q
/-! street -/
noncomputable def half_stQ (h : pm_H) (x : Int32) : Prop := gn h 1 1 = 0 ∧ KP h ∧ SL h ∧ IMG h ∧ ∃ (T : Nat → Int32) (L : Nat), TB T L h ∧ x = stv (PRS T L) ∧ (isR (PRS T L).1 = true → C0 (PRS T L).2.1 (PRS T L).2.2 h) ∧ (isR (PRS T L).1 = false → ST 15 0 h)
theorem g8_street {h : pm_H} (I : IVQ h) : Sp 100 185 h [.ref 0] (fun h' r => IVh h' ∧ ∃ x : Int32, r = some (.int x) ∧ half_stQ h' x) := by
  have hh : HH h := I.1.1
  have l5 : gn h 1 1 ≤ 500 := gn_hi hh rfl (by decide)
  have A : TA (gi h 2) (gn h 1 1) h := ⟨hh, gi_gn hh rfl (by decide), l5, fun _ _ => rfl⟩
  refine Sp_le (by omega) (Sp_mono ?_ (Sp_and (top_all (as := [.ref 0]) q106 (by decide +kernel) I.1 ⟨rfl, trivial⟩) (sp_street8 (d := 0) A)))
  rintro h' r ⟨⟨s1, s2, -⟩, rfl, hh', g1, -, -, good, bad⟩
  obtain ⟨T1, T2⟩ := I.2.1.1.1
  have k9 : ∀ r, KE9 r h h' := KE9_fr s2 rfl
  refine ⟨s1, _, rfl, gn_of g1 (by omega), KP_fr s2 rfl I.2.1.1.2, SL_fr s2 rfl I.2.1.2, IMG_fr s2 rfl (fun r _ _ => k9 r) I.2.2.2, gi h 2, gn h 1 1, ⟨hh', ?_, l5, fun j hj => ?_⟩, rfl, good, fun q => ?_⟩
  · rw [fr_gi s2 rfl, T1]
    exact gi_gn hh rfl (by decide)
  · rw [fr_gi s2 (rg_no rfl _)]
    exact (T2 j hj).symm
  · exact ST_cp (KEE_c (KEE_15 (bad q) rfl)) (KE9_c (k9 0)) I.2.2.1
theorem g9_street {h : pm_H} {x : Int32} (I : IVh h) (J : half_stQ h x) : Sp 100 354 h [.ref 77] (fun h' r => IVQ h' ∧ r = some (.int x)) := by
  obtain ⟨j1, j2, j3, j4, T, L, B, rfl, good, bad⟩ := J
  have l5 := B.2.2.1
  refine Sp_le (by omega) (Sp_mono ?_ (Sp_and (tv_street (d := 0) I.1 I.2.2) (sp_street9 (d := 0) B)))
  rintro h' r ⟨⟨a1, a2, a3, a4, a5⟩, rfl, -, -, -, -, gd, bd, ro⟩
  have e11 : gn h' 1 1 = gn h 1 1 := fr_gn a2 rfl
  have c : ∀ a k, 15 ≤ a → a ≤ 61 → gi h' a k = gi h a k := fun a k x1 x2 => fr_gi a2 (rg_no (by simp [VMS, VM, show Nat.beq 77 a = false from nbeqF (by omega), show Nat.beq 83 a = false from nbeqF (by omega), show Nat.beq 84 a = false from nbeqF (by omega), show Nat.beq 85 a = false from nbeqF (by omega), show Nat.beq 86 a = false from nbeqF (by omega), show Nat.beq 87 a = false from nbeqF (by omega), show Nat.beq 89 a = false from nbeqF (by omega), show Nat.beq 90 a = false from nbeqF (by omega), show Nat.beq 91 a = false from nbeqF (by omega), show Nat.beq 92 a = false from nbeqF (by omega), show Nat.beq 93 a = false from nbeqF (by omega), show Nat.beq 94 a = false from nbeqF (by omega), show Nat.beq 95 a = false from nbeqF (by omega), show Nat.beq 96 a = false from nbeqF (by omega), show Nat.beq 97 a = false from nbeqF (by omega), show Nat.beq 98 a = false from nbeqF (by omega), show Nat.beq 99 a = false from nbeqF (by omega), show Nat.beq 100 a = false from nbeqF (by omega), show Nat.beq 101 a = false from nbeqF (by omega), show Nat.beq 102 a = false from nbeqF (by omega)]) k)
  refine ⟨⟨IVh_fr (M := VMS) (by decide +kernel) a2 a1 I a3, ⟨⟨⟨by omega, fun j hj => by omega⟩, KP_fr a2 rfl j2⟩, SL_fr a2 rfl j3⟩, ?_, IMG_fr a2 rfl (fun r q1 q2 => ro r q2 q1) j4⟩, rfl⟩
  cases hr : isR (PRS T L).1 with
  | false => exact ST_cp (KEE_c (KEE_15 a2 rfl)) (KE9_c (KE9_st (bd hr) 0 (by omega))) (bad hr)
  | true =>
    obtain ⟨W, nL⟩ := PRS_inv hr
    obtain ⟨p0, p1, p2, p3, p4, p5, p6, pc, pj⟩ := good hr
    obtain ⟨q3, q0, q1, q2, q4, q5, q6, qc, qj⟩ := gd hr
    generalize (PRS T L).2.1 = n at W nL p3 q3
    generalize eσ : (PRS T L).2.2 = σ at W p0 p1 p2 p4 p5 pc pj q0 q1 q2 q4 q5 qc qj
    have cb : σ.1.1 ≤ 8 ∧ σ.2.1.1 ≤ 8 ∧ (σ.1.1 = 0 ↔ n = 0) := by
      rcases W with ⟨w1, w2, w3, -⟩ | ⟨w1, w2, w3, w4, -⟩ <;> omega
    have wt : Wt σ := by rw [← eσ]; exact PRS_wt hr
    have g4 : gn h' 15 4 = σ.2.1.1 := by rw [gn_eq (c 15 4 (by omega) (by omega)), gn_of p4 (by omega)]
    have b5 : gn h' 15 5 ≤ 8 := gn_hi a1 rfl (by decide)
    have g5 : gn h' 15 5 = σ.2.2.1 := by
      have j9 : σ.2.2.1 ≤ 9 := by rcases W with ⟨w1, w2, w3, w4⟩ | ⟨w1, w2, w3, w4, w5, w6, -⟩ <;> omega
      rw [gn_eq (c 15 5 (by omega) (by omega)), gn_of p5 (by omega)]
    have g6 : gn h' 15 6 = 0 := by rw [gn_eq (c 15 6 (by omega) (by omega)), gn_of p6 (by omega)]
    have g0 : gn h' 15 0 = σ.1.1 := by rw [gn_eq (c 15 0 (by omega) (by omega)), gn_of p0 (by omega)]
    refine ⟨⟨?_, fun k hk => ?_, ?_, ?_, ?_⟩, ?_, fun i hi q => ?_, ⟨by omega, b5, by omega⟩, ⟨fun i hi => ?_, fun i hi => ?_⟩, fun i hi => by omega, fun i hi => ?_, fun i hi => by omega, fun i hi => ?_⟩
    · rw [c 15 3 (by omega) (by omega), p3, q3]
    · match k, hk with
      | 0, _ => rw [c 15 0 (by omega) (by omega), p0]; exact q0.symm
      | 1, _ => rw [c 15 1 (by omega) (by omega), p1]; exact q1.symm
      | 2, _ => rw [c 15 2 (by omega) (by omega), p2]; exact q2.symm
    · rw [c 15 4 (by omega) (by omega), p4]; exact q4.symm
    · rw [c 15 5 (by omega) (by omega), p5]; exact q5.symm
    · rw [c 15 3 (by omega) (by omega), p3, gn_eq (c 15 0 (by omega) (by omega)), gn_of p0 (by omega), nJ_toInt (by omega)]
      omega
    · show gi h' 15 6 = gi h' 84 (6 * 0 + 5)
      rw [c 15 6 (by omega) (by omega), p6]; exact q6.symm
    · rw [gn_eq (c 15 4 (by omega) (by omega)), gn_of p4 (by omega)] at q
      show gi h' 18 i = gi h' 85 (16 * 0 + (2 * i + 1))
      rw [c 18 i (by omega) (by omega), (pc i hi q).2.2, show 16 * 0 + (2 * i + 1) = 2 * i + 1 by omega, (qc i hi q).2]
    · show gi h' 16 i = gi h' 85 (16 * 0 + 2 * i)
      rw [c 16 i (by omega) (by omega), (pc i (by omega) (by omega)).1, show 16 * 0 + 2 * i = 2 * i by omega, (qc i (by omega) (by omega)).1]
    · show gi h' 19 i = gi h' 86 (16 * 0 + 2 * i) ∧ gi h' 20 i = gi h' 86 (16 * 0 + (2 * i + 1))
      rw [c 19 i (by omega) (by omega), c 20 i (by omega) (by omega), (pj i (by omega) (by omega)).1, (pj i (by omega) (by omega)).2, show 16 * 0 + 2 * i = 2 * i by omega, show 16 * 0 + (2 * i + 1) = 2 * i + 1 by omega, (qj i (by omega) (by omega)).1, (qj i (by omega) (by omega)).2]
      exact ⟨rfl, rfl⟩
    · show 1 ≤ gn h' 16 i ∧ gn h' 16 i ≤ gn h' 15 0
      have w := wt i (by omega)
      rw [gn_eq (c 16 i (by omega) (by omega)), gn_of (pc i (by omega) (by omega)).1 (by omega), g0]
      exact w
    · show gn h' 17 i = nwF (gn h' 21) (gn h' 22) (gn h' 23) (gn h' 16) (gn h' 15 6) i
      have w := wt i (by omega)
      rw [g6]
      show gn h' 17 i = gn h' 16 i
      rw [gn_eq (c 16 i (by omega) (by omega)), gn_eq (c 17 i (by omega) (by omega)), gn_of (pc i (by omega) (by omega)).1 (by omega), gn_of (pc i (by omega) (by omega)).2.1 (by omega)]
/-! undo, anew -/
theorem act7 {h : pm_H} (I : IVh h) : ∀ i, i < 20 → ¬ gi h 23 i = 0 → gn h 22 i ≤ 7 := by
  have f := I.2.1 41 (by decide)
  rw [show (41 : Nat) = 21 * 1 + 20 from rfl, fl0_f (f := 1) (j := 20) (by omega) rfl] at f
  intro i hi nz
  have l1 := (ld_gi I.1 (a := 23) (k := i) (q := (0, 1)) (bd_u rfl hi)).1
  have l2 := (ld_gi I.1 (a := 22) (k := i) (q := (0, 8)) (bd_u rfl hi)).1
  have q := f i hi (by omega) (gi h 23 i) (gi h 22 i) (by rw [show 0 + 1 * i = i by omega]; exact l1) (by rw [show 0 + 1 * i = i by omega]; exact l2) (fun z => nz (Int32.toInt_inj.mp z))
  unfold gn
  omega
theorem lnp_0 {h : pm_H} (S : ST1 15 0 h) : gn h 15 0 = 0 ↔ lnp h = 0 := by
  obtain ⟨s1, -, -, -, s5⟩ := S
  rw [s5, s1]
  unfold lnp
  by_cases b : 0 < (gi h 83 0).toInt
  · rw [if_pos b]
    constructor
    · intro q; exact absurd b q
    · intro q; cases q
  · rw [if_neg b]
    exact ⟨fun _ => rfl, fun _ => b⟩
theorem udv_eq {p q a : Nat} (e : p = 0 ↔ q = 0) : udv p a = udv q a ∧ uda p a = uda q a ∧ anv p a = anv q a ∧ ana p a = ana q a := by
  unfold udv uda anv ana
  by_cases b : p = 0
  · have b2 := e.mp b
    rw [if_pos b, if_pos b2, if_pos b, if_pos b2, if_pos b, if_pos b2, if_pos b, if_pos b2]
    exact ⟨rfl, rfl, rfl, rfl⟩
  · have b2 : ¬ q = 0 := fun z => b (e.mpr z)
    rw [if_neg b, if_neg b2, if_neg b, if_neg b2, if_neg b, if_neg b2, if_neg b, if_neg b2]
    exact ⟨rfl, rfl, rfl, rfl⟩
theorem lnp_fr {h h' : pm_H} (e : gi h' 83 0 = gi h 83 0) : lnp h' = lnp h := by unfold lnp; rw [e]
/-- of the street as it is now: all but that its acts are the reference's -/
noncomputable def HF (h : pm_H) : Prop := BN 15 h ∧ TJ 15 0 h ∧ VT 15 h ∧ VA 15 h ∧ NW 15 h
theorem FS_of {h : pm_H} (H : HF h) (a : AC 15 0 (gn h 15 6) h) : FS 15 0 h := ⟨H.1, H.2.1, a, H.2.2.1, H.2.2.2.1, H.2.2.2.2⟩
theorem HF_of {h : pm_H} (F : FS 15 0 h) : HF h := ⟨F.1, F.2.1, F.2.2.2.1, F.2.2.2.2.1, F.2.2.2.2.2⟩
theorem HF_k {h h' : pm_H} (c : ∀ q, q ≤ 8 → q ≠ 3 → ∀ j, gi h' (15 + q) j = gi h (15 + q) j) (e85 : ∀ i, i < 8 → gi h' 85 (2 * i) = gi h 85 (2 * i)) (e86 : ∀ i, i < 16 → gi h' 86 i = gi h 86 i) (S : HF h) : HF h' := by
  have n : ∀ q, q ≤ 8 → q ≠ 3 → gn h' (15 + q) = gn h (15 + q) := fun q h1 h2 => funext (fun j => gn_eq (c q h1 h2 j))
  obtain ⟨b, ⟨t1, t2⟩, vt, va, nw⟩ := S
  have n0 : gn h' 15 = gn h 15 := n 0 (by omega) (by omega)
  have n1 : gn h' 16 = gn h 16 := n 1 (by omega) (by omega)
  have n2 : gn h' 17 = gn h 17 := n 2 (by omega) (by omega)
  have n6 : gn h' 21 = gn h 21 := n 6 (by omega) (by omega)
  have n7 : gn h' 22 = gn h 22 := n 7 (by omega) (by omega)
  have n8 : gn h' 23 = gn h 23 := n 8 (by omega) (by omega)
  have c1 : ∀ j, gi h' 16 j = gi h 16 j := c 1 (by omega) (by omega)
  have c4 : ∀ j, gi h' 19 j = gi h 19 j := c 4 (by omega) (by omega)
  have c5 : ∀ j, gi h' 20 j = gi h 20 j := c 5 (by omega) (by omega)
  obtain ⟨b1, b2, b3⟩ := b
  refine ⟨?_, ⟨fun i hi => ?_, fun i hi => ?_⟩, fun i hi => ?_, fun i hi => ?_, fun i hi => ?_⟩
  · show gn h' 15 4 ≤ 8 ∧ gn h' 15 5 ≤ 8 ∧ gn h' 15 6 ≤ 20
    rw [n0]; exact ⟨b1, b2, b3⟩
  · rw [n0] at hi
    have q := t1 i hi
    show gi h' 16 i = gi h' 85 (16 * 0 + 2 * i)
    rw [show 16 * 0 + 2 * i = 2 * i by omega] at q ⊢
    rw [c1, e85 i (by omega)]; exact q
  · rw [n0] at hi
    have q := t2 i hi
    show gi h' 19 i = gi h' 86 (16 * 0 + 2 * i) ∧ gi h' 20 i = gi h' 86 (16 * 0 + (2 * i + 1))
    rw [show 16 * 0 + 2 * i = 2 * i by omega, show 16 * 0 + (2 * i + 1) = 2 * i + 1 by omega] at q ⊢
    rw [c4, c5, e86 _ (by omega), e86 _ (by omega)]; exact q
  · rw [n0] at hi
    show 1 ≤ gn h' 16 i ∧ gn h' 16 i ≤ gn h' 15 0
    rw [n0, n1]; exact vt i hi
  · rw [n0] at hi
    show vAct (gn h' 15 4) (gn h' 15 0) (gn h' 21) (gn h' 22) (gn h' 23) i
    rw [n0, n6, n7, n8]; exact va i hi
  · rw [n0] at hi
    show gn h' 17 i = nwF (gn h' 21) (gn h' 22) (gn h' 23) (gn h' 16) (gn h' 15 6) i
    rw [n0, n1, n2, n6, n7, n8]; exact nw i hi
/-- acts taken back -/
theorem un_HF {h h' : pm_H} {a : Nat} (F : FS 15 0 h) (f : fr_g KAF h h') (e : gi h' 15 6 = nJ a) (le : a ≤ gn h 15 6) (N : ∀ j, j < gn h 15 4 → gn h' 17 j = nwF (gn h 21) (gn h 22) (gn h 23) (gn h 16) a j) : HF h' ∧ AC 15 0 a h' := by
  obtain ⟨⟨b1, b2, b3⟩, ⟨t1, t2⟩, ac, vt, va, nw⟩ := F
  have e4 : gn h' 15 4 = gn h 15 4 := fr_gn f rfl
  have e5 : gn h' 15 5 = gn h 15 5 := fr_gn f rfl
  have e0 : gn h' 15 0 = gn h 15 0 := fr_gn f rfl
  have e6 : gn h' 15 6 = a := gn_of e (by omega)
  have k16 : ∀ j, gi h' 16 j = gi h 16 j := fun j => fr_gi f (rg_no rfl _)
  have k19 : ∀ j, gi h' 19 j = gi h 19 j := fun j => fr_gi f (rg_no rfl _)
  have k20 : ∀ j, gi h' 20 j = gi h 20 j := fun j => fr_gi f (rg_no rfl _)
  have k21 : ∀ j, gi h' 21 j = gi h 21 j := fun j => fr_gi f (rg_no rfl _)
  have k22 : ∀ j, gi h' 22 j = gi h 22 j := fun j => fr_gi f (rg_no rfl _)
  have k23 : ∀ j, gi h' 23 j = gi h 23 j := fun j => fr_gi f (rg_no rfl _)
  have k85 : ∀ j, gi h' 85 j = gi h 85 j := fun j => fr_gi f (rg_no rfl _)
  have k86 : ∀ j, gi h' 86 j = gi h 86 j := fun j => fr_gi f (rg_no rfl _)
  have k87 : ∀ j, gi h' 87 j = gi h 87 j := fun j => fr_gi f (rg_no rfl _)
  have n16 : gn h' 16 = gn h 16 := funext (fun j => gn_eq (k16 j))
  have n21 : gn h' 21 = gn h 21 := funext (fun j => gn_eq (k21 j))
  have n22 : gn h' 22 = gn h 22 := funext (fun j => gn_eq (k22 j))
  have n23 : gn h' 23 = gn h 23 := funext (fun j => gn_eq (k23 j))
  refine ⟨⟨⟨by omega, by omega, by omega⟩, ⟨fun i hi => ?_, fun i hi => ?_⟩, fun i hi => ?_, fun i hi => ?_, fun i hi => ?_⟩, fun i hi => ?_⟩
  · show gi h' 16 i = gi h' 85 (16 * 0 + 2 * i)
    rw [k16, k85]; exact t1 i (by omega)
  · show gi h' 19 i = gi h' 86 (16 * 0 + 2 * i) ∧ gi h' 20 i = gi h' 86 (16 * 0 + (2 * i + 1))
    rw [k19, k20, k86, k86]; exact t2 i (by omega)
  · show 1 ≤ gn h' 16 i ∧ gn h' 16 i ≤ gn h' 15 0
    rw [n16, e0]; exact vt i (by omega)
  · show vAct (gn h' 15 4) (gn h' 15 0) (gn h' 21) (gn h' 22) (gn h' 23) i
    rw [e4, e0, n21, n22, n23]; exact va i (by omega)
  · show gn h' 17 i = nwF (gn h' 21) (gn h' 22) (gn h' 23) (gn h' 16) (gn h' 15 6) i
    rw [n16, n21, n22, n23, e6]; exact N i (by omega)
  · show gi h' 21 i = gi h' 87 (60 * 0 + (3 * i + 1)) ∧ gi h' 22 i = gi h' 87 (60 * 0 + (3 * i + 2)) ∧ gi h' 23 i = gi h' 87 (60 * 0 + 3 * i)
    rw [k21, k22, k23, k87, k87, k87]; exact ac i (by omega)
noncomputable def WMF : List Rng := [(15, 6, 6), (17, 0, 7), (21, 0, 19), (22, 0, 19), (23, 0, 19), (62, 1, 3), (63, 0, 7)]
theorem gi_g2 {h h' : pm_H} {a k : Nat} {q : Int × Int} (hh : HH h) (hh' : HH h') (hb : bd a k = some q) (h0 : 0 ≤ q.1) (e : gn h' a k = gn h a k) : gi h' a k = gi h a k := by
  rw [gi_gn hh' hb h0, gi_gn hh hb h0, e]
/-- an act more, or none -/
theorem add_HF {h h' : pm_H} {c z t : Nat} {ok : Bool} (hh : HH h) (hh' : HH h') (F : FS 15 0 h) (f : fr_g WMF h h') (V : ok = true → c < gn h 15 4 ∧ ((t = 0 ∧ 1 ≤ z ∧ z ≤ gn h 15 0) ∨ (t = 1 ∧ z < gn h 15 4))) (X : WX ok h h' (gn h 15 6) c z t) : HF h' ∧ AC 15 0 (gn h 15 6) h' ∧ (gn h' 15 6 = gn h 15 6 ∨ (gn h' 15 6 = gn h 15 6 + 1 ∧ gi h' 21 (gn h 15 6) = nJ c ∧ gi h' 22 (gn h 15 6) = nJ z ∧ gi h' 23 (gn h 15 6) = nJ t)) := by
  obtain ⟨⟨b1, b2, b3⟩, ⟨t1, t2⟩, ac, vt, va, nw⟩ := F
  have e4 : gn h' 15 4 = gn h 15 4 := fr_gn f rfl
  have e5 : gn h' 15 5 = gn h 15 5 := fr_gn f rfl
  have e0 : gn h' 15 0 = gn h 15 0 := fr_gn f rfl
  have k16 : ∀ j, gi h' 16 j = gi h 16 j := fun j => fr_gi f (rg_no rfl _)
  have k19 : ∀ j, gi h' 19 j = gi h 19 j := fun j => fr_gi f (rg_no rfl _)
  have k20 : ∀ j, gi h' 20 j = gi h 20 j := fun j => fr_gi f (rg_no rfl _)
  have k85 : ∀ j, gi h' 85 j = gi h 85 j := fun j => fr_gi f (rg_no rfl _)
  have k86 : ∀ j, gi h' 86 j = gi h 86 j := fun j => fr_gi f (rg_no rfl _)
  have k87 : ∀ j, gi h' 87 j = gi h 87 j := fun j => fr_gi f (rg_no rfl _)
  have n16 : gn h' 16 = gn h 16 := funext (fun j => gn_eq (k16 j))
  have tj : TJ 15 0 h' := ⟨fun i hi => by
    show gi h' 16 i = gi h' 85 (16 * 0 + 2 * i)
    rw [k16, k85]; exact t1 i (by omega), fun i hi => by
    show gi h' 19 i = gi h' 86 (16 * 0 + 2 * i) ∧ gi h' 20 i = gi h' 86 (16 * 0 + (2 * i + 1))
    rw [k19, k20, k86, k86]; exact t2 i (by omega)⟩
  have vt' : VT 15 h' := fun i hi => by
    show 1 ≤ gn h' 16 i ∧ gn h' 16 i ≤ gn h' 15 0
    rw [n16, e0]; exact vt i (by omega)
  have ac' : (∀ i, i < gn h 15 6 → gn h' 21 i = gn h 21 i ∧ gn h' 22 i = gn h 22 i ∧ gn h' 23 i = gn h 23 i) → AC 15 0 (gn h 15 6) h' := fun g i hi => by
    obtain ⟨g1, g2, g3⟩ := g i hi
    show gi h' 21 i = gi h' 87 (60 * 0 + (3 * i + 1)) ∧ gi h' 22 i = gi h' 87 (60 * 0 + (3 * i + 2)) ∧ gi h' 23 i = gi h' 87 (60 * 0 + 3 * i)
    rw [k87, k87, k87, gi_g2 hh hh' (bd_u rfl (by omega)) (by decide) g1, gi_g2 hh hh' (bd_u rfl (by omega)) (by decide) g2, gi_g2 hh hh' (bd_u rfl (by omega)) (by decide) g3]
    exact ac i hi
  by_cases b : ok = true ∧ gn h 15 6 < 20
  · obtain ⟨w6, w1, w2, w3, w4⟩ := X.1 b
    have v := V b.1
    have e6 : gn h' 15 6 = gn h 15 6 + 1 := gn_of w6 (by omega)
    have vK : vAct (gn h 15 4) (gn h 15 0) (fup (gn h 21) (gn h 15 6) c) (fup (gn h 22) (gn h 15 6) z) (fup (gn h 23) (gn h 15 6) t) (gn h 15 6) := by
      unfold vAct
      rw [fup_s, fup_s, fup_s]
      exact v
    refine ⟨⟨⟨by omega, by omega, by omega⟩, tj, vt', fun i hi => ?_, fun i hi => ?_⟩, ac' (fun i hi => by rw [w1, w2, w3, fup_n (by omega), fup_n (by omega), fup_n (by omega)]; exact ⟨rfl, rfl, rfl⟩), .inr ⟨e6, ?_, ?_, ?_⟩⟩
    · show vAct (gn h' 15 4) (gn h' 15 0) (gn h' 21) (gn h' 22) (gn h' 23) i
      rw [e4, e0, w1, w2, w3]
      by_cases q : i = gn h 15 6
      · rw [q]; exact vK
      · have o := va i (by omega)
        unfold vAct at o ⊢
        rw [fup_n q, fup_n q, fup_n q]
        exact o
    · show gn h' 17 i = nwF (gn h' 21) (gn h' 22) (gn h' 23) (gn h' 16) (gn h' 15 6) i
      rw [w4, w1, w2, w3, e6, n16]
      exact dAct_cg rfl rfl rfl vK (fun j hj => (nw j hj).trans (nwF_cg (gn h 15 6) (fun q hq => ⟨fup_n (by omega), fup_n (by omega), fup_n (by omega)⟩) va (fun _ _ => rfl) j hj).symm) i (by omega)
    · rw [gi_gn hh' (q := (0, 7)) (bd_u rfl (by omega)) (by decide), w1, fup_s]
    · rw [gi_gn hh' (q := (0, 8)) (bd_u rfl (by omega)) (by decide), w2, fup_s]
    · rw [gi_gn hh' (q := (0, 1)) (bd_u rfl (by omega)) (by decide), w3, fup_s]
  · obtain ⟨w6, w1, w2, w3, w4⟩ := X.2 b
    have e6 : gn h' 15 6 = gn h 15 6 := gn_eq w6
    refine ⟨⟨⟨by omega, by omega, by omega⟩, tj, vt', fun i hi => ?_, fun i hi => ?_⟩, ac' (fun i hi => by rw [w1, w2, w3]; exact ⟨rfl, rfl, rfl⟩), .inl e6⟩
    · show vAct (gn h' 15 4) (gn h' 15 0) (gn h' 21) (gn h' 22) (gn h' 23) i
      rw [e4, e0, w1, w2, w3]; exact va i (by omega)
    · show gn h' 17 i = nwF (gn h' 21) (gn h' 22) (gn h' 23) (gn h' 16) (gn h' 15 6) i
      rw [w4, w1, w2, w3, e6, n16]; exact nw i (by omega)
/-- between: all but the acts, which are told -/
noncomputable def half_ac (h : pm_H) (a : Nat) : Prop := RES h ∧ IMG h ∧ ST1 15 0 h ∧ STD 15 0 h ∧ gi h 15 6 = nJ a ∧ HF h
theorem ac_8 {M : List Rng} {h h' : pm_H} {a : Nat} (R : QRE h) (hf : fr_g M h h') (hb : resB M = true) (hi : imB M = true) (hr : rwB M = true) (h1 : ∀ k, k ≤ 5 → rg_in M 15 k = false) (h2 : M.all (fun r => !(Nat.beq r.1 18)) = true) (e : gi h' 15 6 = nJ a) (H : HF h') : half_ac h' a := by
  have k9 : ∀ r, KE9 r h h' := KE9_fr hf hr
  refine ⟨RES_fr hf hb R.1, IMG_fr hf hi (fun r _ _ => k9 r) R.2.2, ST1_k (fun k hk => fr_gi hf (h1 k hk)) (k9 0).1 (fun k hk => ?_) R.2.1.1, STD_k (fr_gi hf (h1 4 (by omega))) (fun i => fr_gi hf (rg_no h2 _)) (fun i hi => ?_) R.2.1.2.2.1, e, H⟩
  · have := (k9 0).2.1 k (by omega)
    rw [show 6 * 0 + k = k by omega] at this
    exact this
  · have := (k9 0).2.2.1 i hi
    rw [show 16 * 0 + i = i by omega] at this
    exact this
theorem ac_9 {M : List Rng} {h h' : pm_H} {a : Nat} (J : half_ac h a) (hf : fr_g M h h') (hb : resB M = true) (hc : clB M = true) (s : SAM h h') (e86 : ∀ k, gi h' 86 k = gi h 86 k) (e87 : ∀ k, 60 ≤ k → gi h' 87 k = gi h 87 k) (e : gi h' 84 5 = nJ a) (A : AC 15 0 (gn h 15 6) h') : QRE h' := by
  obtain ⟨j1, j2, j3, j4, j5, j6⟩ := J
  have c : ∀ k, gi h' 15 k = gi h 15 k := fun k => fr_gi hf (rg_no (nc_at hc (by decide)) _)
  have im : imB M = true := by
    unfold clB at hc
    unfold imB
    rw [List.all_eq_true] at hc ⊢
    intro x hx
    exact hc x (by revert x; decide)
  have k9 : ∀ r, 1 ≤ r → r ≤ 3 → KE9 r h h' := fun r h1 _ => ⟨s 83 r (.inl rfl), fun k _ => s 84 _ (.inr (.inr ⟨rfl, by omega⟩)), fun k _ => s 85 _ (.inr (.inl rfl)), fun k _ => e86 _, fun k _ => e87 _ (by omega)⟩
  refine ⟨RES_fr hf hb j1, ⟨ST1_k (fun k _ => c k) (s 83 0 (.inl rfl)) (fun k hk => s 84 k (.inr (.inr ⟨rfl, by omega⟩))) j3, ?_, STD_k (c 4) (fun i => fr_gi hf (rg_no (nc_at hc (by decide)) _)) (fun i _ => s 85 i (.inr (.inl rfl))) j4, FS_of (HF_k (fun q hq _ j => KEE_15 hf hc q hq j) (fun i _ => s 85 _ (.inr (.inl rfl))) (fun i _ => e86 i) j6) (by rw [gn_eq (c 6)]; exact A)⟩, IMG_fr hf im k9 j2⟩
  show gi h' 15 6 = gi h' 84 (6 * 0 + 5)
  rw [c 6, j5]
  exact e.symm
theorem sam_fr {h h' : pm_H} (hf : fr_g [(77, 0, 0), (84, 5, 5)] h h') : SAM h h' := fun a k q => by
  rcases q with rfl | rfl | ⟨rfl, hk⟩
  · exact fr_gi hf (rg_no rfl _)
  · exact fr_gi hf (rg_no rfl _)
  · refine fr_gi hf ?_
    show (Nat.beq 77 84 && (Nat.ble 0 k && Nat.ble k 0) || (Nat.beq 84 84 && (Nat.ble 5 k && Nat.ble k 5) || false)) = false
    have : (Nat.ble 5 k && Nat.ble k 5) = false := by
      cases q : (Nat.ble 5 k && Nat.ble k 5) with
      | false => rfl
      | true =>
        rw [Bool.and_eq_true, nble, nble] at q
        omega
    rw [this]
    rfl
theorem fr_rf_ac {h h' : pm_H} (f : fr_g [(77, 0, 0), (84, 5, 5)] h h') : ∀ a k, a = 21 ∨ a = 22 ∨ a = 23 ∨ a = 87 → gi h' a k = gi h a k := fun a k q => by
  rcases q with rfl | rfl | rfl | rfl <;> exact fr_gi f (rg_no rfl _)
theorem AC_87 {h h' : pm_H} {n : Nat} (e : ∀ a k, a = 21 ∨ a = 22 ∨ a = 23 ∨ a = 87 → gi h' a k = gi h a k) (A : AC 15 0 n h) : AC 15 0 n h' := fun i hi => by
  show gi h' 21 i = gi h' 87 (60 * 0 + (3 * i + 1)) ∧ gi h' 22 i = gi h' 87 (60 * 0 + (3 * i + 2)) ∧ gi h' 23 i = gi h' 87 (60 * 0 + 3 * i)
  rw [e 21 i (by omega), e 22 i (by omega), e 23 i (by omega), e 87 _ (by omega), e 87 _ (by omega), e 87 _ (by omega)]
  exact A i hi
section UNQ
variable {h : pm_H} {x : Int32}
noncomputable def half_unQ (h : pm_H) (x : Int32) : Prop := (half_ac h (uda (lnp h) (gn h 84 5)) ∧ AC 15 0 (uda (lnp h) (gn h 84 5)) h) ∧ x = udv (lnp h) (gn h 84 5)
noncomputable def half_anQ (h : pm_H) (x : Int32) : Prop := (half_ac h (ana (lnp h) (gn h 84 5)) ∧ AC 15 0 (ana (lnp h) (gn h 84 5)) h) ∧ x = anv (lnp h) (gn h 84 5)
theorem uda_le {p a : Nat} : uda p a ≤ a := by unfold uda; split <;> omega
theorem ana_le {p a : Nat} : ana p a ≤ a := by unfold ana; split <;> omega
theorem acts_eq (R : QRE h) : gn h 15 6 = gn h 84 5 := gn_eq (show gi h 15 6 = gi h 84 5 from R.2.1.2.1)
theorem g8_undo (I : IVQ h) : Sp 100 195 h [.ref 0] (fun h' r => IVh h' ∧ ∃ x : Int32, r = some (.int x) ∧ half_unQ h' x) := by
  refine Sp_le (by omega) (Sp_mono ?_ (Sp_and (top_all (as := [.ref 0]) q878 (by decide +kernel) I.1 ⟨rfl, trivial⟩) (sp_undo8X (d := 0) I.1.1 I.2.2.1.2.2.2.2.2.2.2.1 I.2.2.1.2.2.2.2.2.2.2.2)))
  rintro h' r ⟨⟨s1, s2, -⟩, rfl, g6, ka, nw⟩
  have u := udv_eq (a := gn h 84 5) (lnp_0 I.2.2.1.1)
  have e1 : lnp h' = lnp h := lnp_fr (fr_gi s2 (rg_no rfl _))
  have e2 : gn h' 84 5 = gn h 84 5 := fr_gn s2 (rg_no rfl _)
  obtain ⟨H, A⟩ := un_HF I.2.2.1.2.2.2 ka g6 uda_le nw
  rw [acts_eq I.2, u.2.1] at g6 A
  refine ⟨s1, _, rfl, ⟨ac_8 I.2 s2 rfl rfl rfl (fun k hk => ?_) rfl (by rw [e1, e2]; exact g6) H, by rw [e1, e2]; exact A⟩, by rw [e1, e2, acts_eq I.2, u.1]⟩
  match k, hk with
  | 0, _ => rfl
  | 1, _ => rfl
  | 2, _ => rfl
  | 3, _ => rfl
  | 4, _ => rfl
  | 5, _ => rfl
theorem g9_undo (I : IVh h) (J : half_unQ h x) : Sp 100 366 h [.ref 77] (fun h' r => IVQ h' ∧ r = some (.int x)) := by
  refine Sp_le (by omega) (Sp_mono ?_ (Sp_and (tv_undo (d := 0) I.1 I.2.2) (sp_undo9 (d := 0) I.1)))
  rintro h' r ⟨⟨a1, a2, a3, -⟩, rfl, -, f9, g9⟩
  obtain ⟨J1, rfl⟩ := J
  exact ⟨⟨IVh_fr (M := VM) (by decide +kernel) a2 a1 I a3, ac_9 J1.1 f9 rfl rfl (sam_fr f9) (fun k => fr_gi f9 (rg_no rfl _)) (fun k _ => fr_gi f9 (rg_no rfl _)) g9 (AC_87 (fr_rf_ac f9) (by rw [gn_of J1.1.2.2.2.2.1 (by have := (g84 I.1).2.1; have := @uda_le (lnp h) (gn h 84 5); omega)]; exact J1.2))⟩, rfl⟩
theorem g8_anew (I : IVQ h) : Sp 100 79 h [.ref 0] (fun h' r => IVh h' ∧ ∃ x : Int32, r = some (.int x) ∧ half_anQ h' x) := by
  refine Sp_le (by omega) (Sp_mono ?_ (Sp_and (top_all (as := [.ref 0]) q881 (by decide +kernel) I.1 ⟨rfl, trivial⟩) (sp_anew8X (p := 0) (d := 0) I.1.1 I.2.2.1.2.2.2.2.2.2.2.2)))
  rintro h' r ⟨⟨s1, s2, -⟩, rfl, g6, ka, nw⟩
  have u := udv_eq (a := gn h 84 5) (lnp_0 I.2.2.1.1)
  have e1 : lnp h' = lnp h := lnp_fr (fr_gi s2 (rg_no rfl _))
  have e2 : gn h' 84 5 = gn h 84 5 := fr_gn s2 (rg_no rfl _)
  obtain ⟨H, A⟩ := un_HF I.2.2.1.2.2.2 ka g6 ana_le nw
  rw [acts_eq I.2, u.2.2.2] at g6 A
  refine ⟨s1, _, rfl, ⟨ac_8 I.2 s2 rfl rfl rfl (fun k hk => ?_) rfl (by rw [e1, e2]; exact g6) H, by rw [e1, e2]; exact A⟩, by rw [e1, e2, acts_eq I.2, u.2.2.1]⟩
  match k, hk with
  | 0, _ => rfl
  | 1, _ => rfl
  | 2, _ => rfl
  | 3, _ => rfl
  | 4, _ => rfl
  | 5, _ => rfl
theorem g9_anew (I : IVh h) (J : half_anQ h x) : Sp 100 207 h [.ref 77] (fun h' r => IVQ h' ∧ r = some (.int x)) := by
  refine Sp_le (by omega) (Sp_mono ?_ (Sp_and (tv_anew (d := 0) I.1 I.2.2) (sp_anew9 (d := 0) I.1)))
  rintro h' r ⟨⟨a1, a2, a3, -⟩, rfl, -, f9, g9⟩
  obtain ⟨J1, rfl⟩ := J
  exact ⟨⟨IVh_fr (M := VM) (by decide +kernel) a2 a1 I a3, ac_9 J1.1 f9 rfl rfl (sam_fr f9) (fun k => fr_gi f9 (rg_no rfl _)) (fun k _ => fr_gi f9 (rg_no rfl _)) g9 (AC_87 (fr_rf_ac f9) (by rw [gn_of J1.1.2.2.2.2.1 (by have := (g84 I.1).2.1; have := @ana_le (lnp h) (gn h 84 5); omega)]; exact J1.2))⟩, rfl⟩
end UNQ
section WNQ
variable {h : pm_H} {v w : Int32}
noncomputable def wq (h : pm_H) (v w : Int32) : Nat := wna (bif decide (0 < (gi h 83 0).toInt) then okW (gn h 84 3) (gn h 84 0) v w else false) (gn h 84 5)
noncomputable def tq (h : pm_H) (v w : Int32) : Nat := wna (okT (gn h 84 3) v w) (gn h 84 5)
theorem wq_eq (R : QRE h) : wna (okW (gn h 15 4) (gn h 15 0) v w) (gn h 15 6) = wq h v w := by
  obtain ⟨s1, s2, s3, s4, s5⟩ := R.2.1.1
  have e4 : gn h 15 4 = gn h 84 3 := gn_eq s3
  have e0 : gn h 15 0 = gn h 84 0 := gn_eq (s2 0 (by omega))
  unfold wq
  rw [acts_eq R, e4, e0]
  rw [e0, s1] at s5
  by_cases b : 0 < (gi h 83 0).toInt
  · rw [decide_eq_true b]; rfl
  · have p0 := s5.mpr b
    rw [decide_eq_false b]
    have : okW (gn h 84 3) (gn h 84 0) v w = false := decide_eq_false (fun q => by have := q.2; rw [p0] at this; omega)
    rw [this]
    rfl
theorem tq_eq (R : QRE h) : wna (okT (gn h 15 4) v w) (gn h 15 6) = tq h v w := by
  obtain ⟨s1, s2, s3, s4, s5⟩ := R.2.1.1
  have e4 : gn h 15 4 = gn h 84 3 := gn_eq s3
  unfold tq
  rw [acts_eq R, e4]
/-- between, of an act: the reference has not done it yet -/
noncomputable def half_w (h : pm_H) (a : Nat) (v w : Int32) (t : Nat) : Prop := half_ac h a ∧ AC 15 0 (gn h 84 5) h ∧ (gn h 15 6 = gn h 84 5 ∨ (gn h 15 6 = gn h 84 5 + 1 ∧ gi h 21 (gn h 84 5) = nJ v.toInt.toNat ∧ gi h 22 (gn h 84 5) = nJ w.toInt.toNat ∧ gi h 23 (gn h 84 5) = nJ t))
theorem okW_v {c p : Nat} (c8 : c ≤ 8) (p8 : p ≤ 8) (e : okW c p v w = true) : v.toInt.toNat < c ∧ (((0 : Nat) = 0 ∧ 1 ≤ w.toInt.toNat ∧ w.toInt.toNat ≤ p) ∨ ((0 : Nat) = 1 ∧ w.toInt.toNat < c)) := by
  obtain ⟨q1, q2⟩ := of_decide_eq_true e
  exact ⟨by omega, .inl ⟨rfl, by omega, by omega⟩⟩
theorem okT_v {c p : Nat} (c8 : c ≤ 8) (e : okT c v w = true) : v.toInt.toNat < c ∧ (((1 : Nat) = 0 ∧ 1 ≤ w.toInt.toNat ∧ w.toInt.toNat ≤ p) ∨ ((1 : Nat) = 1 ∧ w.toInt.toNat < c)) := by
  obtain ⟨q1, q2, -⟩ := of_decide_eq_true e
  exact ⟨by omega, .inr ⟨rfl, by omega⟩⟩
theorem w_9 {h h' : pm_H} {M : List Rng} {a t : Nat} (hh : HH h) (hh' : HH h') (J : half_w h a v w t) (a20 : a ≤ 20) (hf : fr_g M h h') (hb : resB M = true) (hc : clB M = true) (s : SAM h h') (e86 : ∀ k, gi h' 86 k = gi h 86 k) (e : gi h' 84 5 = nJ a) (D : AD9 h h' t v.toInt.toNat w.toInt.toNat) : QRE h' := by
  obtain ⟨J1, A, B⟩ := J
  have K := g84 hh
  have k20 := (g84 hh').2.1
  have e6 : gn h 15 6 = a := gn_of J1.2.2.2.2.1 (by omega)
  have c : ∀ q, q ≤ 8 → ∀ j, gi h' (15 + q) j = gi h (15 + q) j := KEE_15 hf hc
  have c6 : ∀ j, gi h' 21 j = gi h 21 j := c 6 (by omega)
  have c7 : ∀ j, gi h' 22 j = gi h 22 j := c 7 (by omega)
  have c8 : ∀ j, gi h' 23 j = gi h 23 j := c 8 (by omega)
  rcases D with ⟨d1, d2⟩ | ⟨d1, d2, d3, d4, d5⟩
  · have ea : a = gn h 84 5 := by
      have q : nJ a = nJ (gn h 84 5) := by rw [← e, d1]; exact K.1
      exact (nJ_eq (by omega) (by omega)).mp q
    refine ac_9 J1 hf hb hc s e86 (fun k _ => d2 k) e (AC_87 (fun b k q => ?_) (by rw [e6, ea]; exact A))
    rcases q with rfl | rfl | rfl | rfl
    · exact c6 k
    · exact c7 k
    · exact c8 k
    · exact d2 k
  · have ea : a = gn h 84 5 + 1 := (nJ_eq (by omega) (by omega)).mp (by rw [← e, d1])
    have g5 : gn h' 84 5 = gn h 84 5 + 1 := gn_of d1 (by omega)
    rcases B with B | ⟨B1, B2, B3, B4⟩
    · omega
    refine ac_9 J1 hf hb hc s e86 (fun k hk => d5 k (by omega) (by omega) (by omega)) e (fun i hi => ?_)
    rw [B1] at hi
    show gi h' 21 i = gi h' 87 (60 * 0 + (3 * i + 1)) ∧ gi h' 22 i = gi h' 87 (60 * 0 + (3 * i + 2)) ∧ gi h' 23 i = gi h' 87 (60 * 0 + 3 * i)
    rw [c6, c7, c8, show 60 * 0 + (3 * i + 1) = 3 * i + 1 by omega, show 60 * 0 + (3 * i + 2) = 3 * i + 2 by omega, show 60 * 0 + 3 * i = 3 * i by omega]
    by_cases q : i = gn h 84 5
    · rw [q, B2, B3, B4, d2, d3, d4]; exact ⟨rfl, rfl, rfl⟩
    · have o := A i (by omega)
      rw [show 60 * 0 + (3 * i + 1) = 3 * i + 1 by omega, show 60 * 0 + (3 * i + 2) = 3 * i + 2 by omega, show 60 * 0 + 3 * i = 3 * i by omega] at o
      rw [d5 _ (by omega) (by omega) (by omega), d5 _ (by omega) (by omega) (by omega), d5 _ (by omega) (by omega) (by omega)]
      exact o
theorem wna_le {ok : Bool} {a : Nat} (h : a ≤ 20) : wna ok a ≤ 20 := by
  unfold wna
  cases ok
  · exact h
  · show (if a < 20 then a + 1 else a) ≤ 20
    split <;> omega
theorem g8_wants (I : IVQ h) : Sp 100 198 h [.ref 0, .int v, .int w] (fun h' r => IVh h' ∧ ∃ x : Int32, r = some (.int x) ∧ half_w h' (wq h' v w) v w 0) := by
  refine Sp_le (by omega) (Sp_mono ?_ (Sp_and (top_all (as := [.ref 0, .int v, .int w]) q868 (by decide +kernel) I.1 ⟨rfl, aI _, aI _, trivial⟩) (Sp_and (sp_wants8 (d := 0) I.1.1) (sp_wants8X (d := 0) I.1.1))))
  rintro h' r ⟨⟨s1, s2, -⟩, ⟨⟨x, rfl⟩, g6⟩, -, wx⟩
  obtain ⟨-, b0, -, b4, -⟩ := g15 I.1.1
  obtain ⟨H, A, B⟩ := add_HF I.1.1 s1.1 I.2.2.1.2.2.2 s2 (fun e => okW_v b4 b0 e) wx
  rw [acts_eq I.2] at A B
  rw [wq_eq I.2] at g6
  have e1 : gi h' 83 0 = gi h 83 0 := fr_gi s2 (rg_no rfl _)
  have e2 : ∀ k, gn h' 84 k = gn h 84 k := fun k => fr_gn s2 (rg_no rfl _)
  refine ⟨s1, x, rfl, ac_8 I.2 s2 rfl rfl rfl (fun k hk => ?_) rfl (by unfold wq at g6 ⊢; rw [e1, e2, e2, e2]; exact g6) H, by rw [e2]; exact ⟨A, B⟩⟩
  match k, hk with
  | 0, _ => rfl
  | 1, _ => rfl
  | 2, _ => rfl
  | 3, _ => rfl
  | 4, _ => rfl
  | 5, _ => rfl
theorem g9_wants (I : IVh h) (J : half_w h (wq h v w) v w 0) : Sp 100 370 h [.ref 77, .int v, .int w] (fun h' r => IVQ h' ∧ ∃ x : Int32, r = some (.int x)) := by
  refine Sp_le (by omega) (Sp_mono ?_ (Sp_and (tv_wantsE (d := 0) I.1 I.2.2) (tv_wantsX (d := 0) I.1 I.2.2)))
  rintro h' r ⟨⟨⟨a1, a2, a3, a4⟩, s, g9⟩, -, e86, ad⟩
  exact ⟨⟨IVh_fr (M := VM) (by decide +kernel) a2 a1 I a3, w_9 I.1 a1 J (wna_le (g84 I.1).2.1) a2 rfl rfl s e86 g9 ad⟩, a4⟩
theorem g8_trades (I : IVQ h) : Sp 100 191 h [.ref 0, .int v, .int w] (fun h' r => IVh h' ∧ ∃ x : Int32, r = some (.int x) ∧ half_w h' (tq h' v w) v w 1) := by
  refine Sp_le (by omega) (Sp_mono ?_ (Sp_and (top_all (as := [.ref 0, .int v, .int w]) q873 (by decide +kernel) I.1 ⟨rfl, aI _, aI _, trivial⟩) (Sp_and (sp_trades8 (d := 0) I.1.1) (sp_trades8X (d := 0) I.1.1))))
  rintro h' r ⟨⟨s1, s2, -⟩, ⟨⟨x, rfl⟩, g6⟩, -, wx⟩
  obtain ⟨-, b0, -, b4, -⟩ := g15 I.1.1
  obtain ⟨H, A, B⟩ := add_HF I.1.1 s1.1 I.2.2.1.2.2.2 s2 (fun e => okT_v b4 e) wx
  rw [acts_eq I.2] at A B
  rw [tq_eq I.2] at g6
  have e2 : ∀ k, gn h' 84 k = gn h 84 k := fun k => fr_gn s2 (rg_no rfl _)
  refine ⟨s1, x, rfl, ac_8 I.2 s2 rfl rfl rfl (fun k hk => ?_) rfl (by unfold tq at g6 ⊢; rw [e2, e2]; exact g6) H, by rw [e2]; exact ⟨A, B⟩⟩
  match k, hk with
  | 0, _ => rfl
  | 1, _ => rfl
  | 2, _ => rfl
  | 3, _ => rfl
  | 4, _ => rfl
  | 5, _ => rfl
theorem g9_trades (I : IVh h) (J : half_w h (tq h v w) v w 1) : Sp 100 362 h [.ref 77, .int v, .int w] (fun h' r => IVQ h' ∧ ∃ x : Int32, r = some (.int x)) := by
  refine Sp_le (by omega) (Sp_mono ?_ (Sp_and (tv_tradesE (d := 0) I.1 I.2.2) (tv_tradesX (d := 0) I.1 I.2.2)))
  rintro h' r ⟨⟨⟨a1, a2, a3, a4⟩, s, g9⟩, -, e86, ad⟩
  exact ⟨⟨IVh_fr (M := VM) (by decide +kernel) a2 a1 I a3, w_9 I.1 a1 J (wna_le (g84 I.1).2.1) a2 rfl rfl s e86 g9 ad⟩, a4⟩
end WNQ
/-! rate, count -/
section RTQ
variable {h : pm_H} {x v w : Int32}
noncomputable def half_rtQ (h : pm_H) (x v w : Int32) : Prop := RES h ∧ IMG h ∧ ST1 15 0 h ∧ STA 15 0 h ∧ (∀ i, i < 8 → i < gn h 15 4 → gi h 18 i = rts (gn h 84 3) (gn h 84 5) (fun i => gi h 85 (2 * i + 1)) v w i) ∧ FS 15 0 h ∧ x = rtv (gn h 84 3) (gn h 84 5) (fun i => gi h 85 (2 * i + 1)) v w
theorem rt_eq {c a : Nat} {s s' : Nat → Int32} (c8 : c ≤ 8) (e : ∀ i, i < 8 → i < c → s i = s' i) : rtv c a s v w = rtv c a s' v w ∧ ∀ i, i < 8 → i < c → rts c a s v w i = rts c a s' v w i := by
  constructor
  · unfold rtv
    by_cases q : (0 ≤ v.toInt ∧ v.toInt < (c : Int)) ∧ 0 ≤ w.toInt ∧ w.toInt ≤ 99
    · rw [if_pos q, if_pos q, e _ (by omega) (by omega)]
    · rw [if_neg q, if_neg q]
  · intro i h1 h2
    unfold rts
    rw [e i h1 h2]
theorem g8_rate (I : IVQ h) : Sp 100 164 h [.ref 0, .int v, .int w] (fun h' r => IVh h' ∧ ∃ x : Int32, r = some (.int x) ∧ half_rtQ h' x v w) := by
  refine Sp_le (by omega) (Sp_mono ?_ (Sp_and (top_all (as := [.ref 0, .int v, .int w]) q895 (by decide +kernel) I.1 ⟨rfl, aI _, aI _, trivial⟩) (sp_rate8 (d := 0) I.1.1)))
  rintro h' r ⟨⟨s1, s2, -⟩, rfl, g18⟩
  obtain ⟨-, -, -, c8, -⟩ := g15 I.1.1
  have k9 : ∀ r, KE9 r h h' := KE9_fr s2 rfl
  have c15 : ∀ k, gi h' 15 k = gi h 15 k := fun k => fr_gi s2 (rg_no rfl _)
  have r84 : ∀ k, gi h' 84 k = gi h 84 k := fun k => fr_gi s2 (rg_no rfl _)
  have r85 : ∀ k, gi h' 85 k = gi h 85 k := fun k => fr_gi s2 (rg_no rfl _)
  have e4 : gn h 15 4 = gn h 84 3 := gn_eq I.2.2.1.1.2.2.1
  have f85 : (fun i => gi h' 85 (2 * i + 1)) = fun i => gi h 85 (2 * i + 1) := funext (fun i => r85 _)
  have se : ∀ i, i < 8 → i < gn h 15 4 → gi h 18 i = (fun i => gi h 85 (2 * i + 1)) i := fun i h1 h2 => by
    have := I.2.2.1.2.2.1 i h1 h2
    rw [show 16 * 0 + (2 * i + 1) = 2 * i + 1 by omega] at this
    exact this
  have rt := rt_eq (a := gn h 15 6) (v := v) (w := w) c8 se
  refine ⟨s1, _, rfl, RES_fr s2 rfl I.2.1, IMG_fr s2 rfl (fun r _ _ => k9 r) I.2.2.2, ST1_k (fun k _ => c15 k) (k9 0).1 (fun k _ => r84 k) I.2.2.1.1, ?_, fun i h1 h2 => ?_, FS_of (HF_k (fun q hq q3 j => fr_gi s2 (rg_no ((show ∀ q : Fin 9, q.val ≠ 3 → S895.2.2.2.2.1.all (fun r => !(Nat.beq r.1 (15 + q.val))) = true from by decide) ⟨q, by omega⟩ q3) _)) (fun i _ => r85 _) (fun i _ => fr_gi s2 (rg_no rfl _)) (HF_of I.2.2.1.2.2.2)) (by rw [gn_eq (c15 6)]; exact AC_87 (fun a k q => by rcases q with rfl | rfl | rfl | rfl <;> exact fr_gi s2 (rg_no rfl _)) I.2.2.1.2.2.2.2.2.1), ?_⟩
  · show gi h' 15 6 = gi h' 84 (6 * 0 + 5)
    rw [c15, r84]; exact I.2.2.1.2.1
  · rw [gn_eq (c15 4)] at h2
    rw [g18 i, rt.2 i h1 h2, f85, gn_eq (r84 3), gn_eq (r84 5), e4, acts_eq I.2]
  · rw [rt.1, f85, gn_eq (r84 3), gn_eq (r84 5), e4, acts_eq I.2]
theorem g9_rate (I : IVh h) (J : half_rtQ h x v w) : Sp 100 329 h [.ref 77, .int v, .int w] (fun h' r => IVQ h' ∧ r = some (.int x)) := by
  refine Sp_le (by omega) (Sp_mono ?_ (Sp_and (tv_rate (d := 0) I.1 I.2.2) (Sp_and (sp_rate9 (d := 0) I.1) (sp_rate9X (d := 0) I.1))))
  rintro h' r ⟨⟨a1, a2, a3, -⟩, ⟨rfl, -, f9, g9⟩, -, ev⟩
  obtain ⟨j1, j2, j3, j4, j5, j6, rfl⟩ := J
  have c15 : ∀ k, gi h' 15 k = gi h 15 k := fun k => fr_gi f9 (rg_no rfl _)
  have r84 : ∀ k, gi h' 84 k = gi h 84 k := fun k => fr_gi f9 (rg_no rfl _)
  have e83 : ∀ k, gi h' 83 k = gi h 83 k := fun k => fr_gi f9 (rg_no rfl _)
  have k9 : ∀ r, 1 ≤ r → r ≤ 3 → KE9 r h h' := fun r h1 h2 => ⟨e83 r, fun k _ => r84 _, fun k _ => fr_gi f9 (by
    cases q : rg_in [(77, 0, 0), (85, 1, 15)] 85 (16 * r + k) with
    | false => rfl
    | true =>
      obtain ⟨z, hz, hc⟩ := List.any_eq_true.mp q
      simp only [Bool.and_eq_true] at hc
      have c1 := Nat.eq_of_beq_eq_true hc.1
      have c3 := Nat.le_of_ble_eq_true hc.2.2
      simp only [List.mem_cons, List.not_mem_nil, or_false] at hz
      rcases hz with rfl | rfl
      · cases c1
      · have c3 : 16 * r + k ≤ 15 := c3
        omega), fun k _ => fr_gi f9 (rg_no rfl _), fun k _ => fr_gi f9 (rg_no rfl _)⟩
  have ce : ∀ q, q ≤ 8 → ∀ j, gi h' (15 + q) j = gi h (15 + q) j := KEE_15 f9 rfl
  refine ⟨⟨IVh_fr (M := VM) (by decide +kernel) a2 a1 I a3, RES_fr f9 rfl j1, ⟨ST1_k (fun k _ => c15 k) (e83 0) (fun k _ => r84 k) j3, ?_, fun i h1 h2 => ?_, FS_of (HF_k (fun q hq _ j => ce q hq j) (fun i _ => ev i) (fun i _ => fr_gi f9 (rg_no rfl _)) (HF_of j6)) (by rw [gn_eq (c15 6)]; exact AC_87 (fun a k q => by rcases q with rfl | rfl | rfl | rfl <;> exact fr_gi f9 (rg_no rfl _)) j6.2.2.1)⟩, IMG_fr f9 rfl k9 j2⟩, rfl⟩
  · show gi h' 15 6 = gi h' 84 (6 * 0 + 5)
    rw [c15, r84]; exact j4
  · rw [gn_eq (c15 4)] at h2
    show gi h' 18 i = gi h' 85 (16 * 0 + (2 * i + 1))
    rw [show 16 * 0 + (2 * i + 1) = 2 * i + 1 by omega, g9 i h1, fr_gi f9 (rg_no rfl _)]
    exact j5 i h1 h2
noncomputable def half_cnQ (h : pm_H) (x v : Int32) : Prop := QRE h ∧ x = cnv (c9f h) v
theorem cn_eq (hh : HH h) (R : QRE h) : ∀ k, k ≤ 8 → c8f h k = c9f h k := by
  obtain ⟨⟨s1, s2, s3, s4, s5⟩, sa, sd, -⟩ := R.2.1
  intro k hk
  match k, hk with
  | 0, _ => exact s2 0 (by omega)
  | 1, _ => exact s2 1 (by omega)
  | 2, _ => exact s2 2 (by omega)
  | 3, _ => exact s3
  | 4, _ => exact s4
  | 5, _ => exact sa
  | 6, _ => exact s1
  | 7, _ =>
    show gi h 1 1 = gi h 77 6
    rw [gi_gn (a := 1) (k := 1) hh (q := (0, 500)) rfl (by decide), gi_gn (a := 77) (k := 6) hh (q := (0, 500)) rfl (by decide), R.1.1.1.1]
  | 8, _ =>
    show nJ (sct (cf h) 4) = nJ (sct (rf h) 4)
    rw [sct_eq (fun i hi => (SL_cf R.1.2 i hi).1)]
theorem g8_count (I : IVQ h) : Sp 100 93 h [.ref 0, .int v] (fun h' r => IVh h' ∧ ∃ x : Int32, r = some (.int x) ∧ half_cnQ h' x v) := by
  refine Sp_le (by omega) (Sp_mono ?_ (Sp_and (top_all (as := [.ref 0, .int v]) q899 (by decide +kernel) I.1 ⟨rfl, aI _, trivial⟩) (sp_count8 (d := 0) I.1.1)))
  rintro h' r ⟨⟨s1, s2, -⟩, rfl⟩
  have R := QRE_fr s2 rfl I.2
  refine ⟨s1, _, rfl, R, (cnv_eq (fun k hk => ?_))⟩
  rw [cn_eq I.1.1 I.2 k hk]
  have e : ∀ a j, gi h' a j = gi h a j := fun a j => fr_gi s2 rfl
  match k, hk with
  | 0, _ => exact (e 84 0).symm
  | 1, _ => exact (e 84 1).symm
  | 2, _ => exact (e 84 2).symm
  | 3, _ => exact (e 84 3).symm
  | 4, _ => exact (e 84 4).symm
  | 5, _ => exact (e 84 5).symm
  | 6, _ => exact (e 83 0).symm
  | 7, _ => exact (e 77 6).symm
  | 8, _ =>
    show nJ (sct (rf h) 4) = nJ (sct (rf h') 4)
    rw [sct_eq (f := rf h) (g := rf h') (fun i _ => by unfold rf; rw [e 78 i])]
theorem g9_count (I : IVh h) (J : half_cnQ h x v) : Sp 100 233 h [.ref 77, .int v] (fun h' r => IVQ h' ∧ r = some (.int x)) := by
  refine Sp_le (by omega) (Sp_mono ?_ (Sp_and (top_all (as := [.ref 77, .int v]) q901 (by decide +kernel) I ⟨rfl, aI _, trivial⟩) (sp_count9 (d := 0) I.1)))
  rintro h' r ⟨⟨s1, s2, -⟩, rfl⟩
  obtain ⟨J1, rfl⟩ := J
  exact ⟨⟨s1, QRE_fr s2 rfl J1⟩, rfl⟩
end RTQ
theorem IVQ_hp0 : IVQ hp0 := by
  refine ⟨IVS_hp0.1, IVS_hp0.2, ⟨⟨by decide +kernel, fun k hk => ?_, by decide +kernel, by decide +kernel, by decide +kernel⟩, ?_, fun i _ q => ?_, ⟨by decide +kernel, by decide +kernel, by decide +kernel⟩, ⟨fun i hi => ?_, fun i hi => ?_⟩, fun i hi => ?_, fun i hi => ?_, fun i hi => ?_, fun i hi => ?_⟩, fun k hk q => ?_⟩
  · match k, hk with
    | 0, _ => decide +kernel
    | 1, _ => decide +kernel
    | 2, _ => decide +kernel
  · show gi hp0 15 6 = gi hp0 84 (6 * 0 + 5)
    decide +kernel
  · have e : gn hp0 15 4 = 0 := by decide +kernel
    omega
  · have e : gn hp0 15 4 = 0 := by decide +kernel
    omega
  · have e : gn hp0 15 5 = 0 := by decide +kernel
    omega
  · have e : gn hp0 15 6 = 0 := by decide +kernel
    omega
  · have e : gn hp0 15 4 = 0 := by decide +kernel
    omega
  · have e : gn hp0 15 6 = 0 := by decide +kernel
    omega
  · have e : gn hp0 15 4 = 0 := by decide +kernel
    omega
  · match k, hk with
    | 0, _ => exact absurd (by decide +kernel) q
    | 1, _ => exact absurd (by decide +kernel) q
    | 2, _ => exact absurd (by decide +kernel) q
end
section
/-! lays of the reference, exactly: what is wanted now (written by gen_u63.py; wants u62) -/
noncomputable def C9 (h : pm_H) (i : Nat) : Nat := gn h 87 (3 * i + 1)
noncomputable def G9 (h : pm_H) (i : Nat) : Nat := gn h 87 (3 * i + 2)
noncomputable def Z9 (h : pm_H) (i : Nat) : Nat := gn h 87 (3 * i)
noncomputable def t9 (h : pm_H) (c : Nat) : Nat := gn h 85 (2 * c)
noncomputable def W9 (h : pm_H) : Nat → Nat := nwF (C9 h) (G9 h) (Z9 h) (t9 h) (gn h 84 5)
noncomputable def V9 (h : pm_H) : Prop := ∀ i, i < gn h 84 5 → vAct (gn h 84 3) (gn h 84 0) (C9 h) (G9 h) (Z9 h) i
theorem ly_twoX {h0 : pm_H} {d : Nat} {a b : Int32} (hh0 : HH h0) (hV : V9 h0) (j : Nat) : ∀ {h : pm_H} {k : Nat} (lv : List (Nat × Value)), k + j = gn h0 84 5 → HH h → fr_g YM h0 h → gi h 77 22 = a → gi h 77 23 = b → (∀ c, c < gn h0 84 3 → gn h 89 c = nwF (C9 h0) (G9 h0) (Z9 h0) (t9 h0) k c) → pm_get lv 0 = some (.ref 77) → pm_get lv 1 = some (.int (nJ k)) → Ends (pm_at tX9_lays) (pm_Rt pm_P (d + 1)) (54, lv, [], h, 0, 0) (fun h' r => r = none ∧ HH h' ∧ fr_g YM h0 h' ∧ gi h' 77 22 = a ∧ gi h' 77 23 = b ∧ ∀ c, c < gn h0 84 3 → gn h' 89 c = W9 h0 c) := by
  have hK : gn h0 84 5 ≤ 20 := gn_hi hh0 rfl (by decide)
  have hC : gn h0 84 3 ≤ 8 := gn_hi hh0 rfl (by decide)
  induction j with
  | zero =>
    intro h k lv hj hh hfr ga gb hw L0 L1
    have hce : gn h 84 3 = gn h0 84 3 := fr_gn hfr (rg_no rfl _)
    refine E_il rfl L1 ?_
    refine E_al rfl L0 ?_
    refine E_gr rfl hh (q := 84) rfl ?_
    refine E_ci 5 rfl (by decide) ?_
    refine E_ial rfl hh rfl (by omega) (by decide) (show gi h 84 5 = nJ ((gn h0 84 5)) from by rw [fr_gi hfr (rg_no rfl _)]; exact gi_gn hh0 rfl (by decide)) ?_
    refine E_icT rfl (decide_eq_true ((nJ_le (by omega) (by omega)).mpr (by omega))) ?_
    have ek : k = gn h0 84 5 := by omega
    exact E_ret rfl ⟨rfl, hh, hfr, ga, gb, fun c hc => by rw [hw c hc, ek]; rfl⟩
  | succ j ih =>
    intro h k lv hj hh hfr ga gb hw L0 L1
    have hce : gn h 84 3 = gn h0 84 3 := fr_gn hfr (rg_no rfl _)
    refine E_il rfl L1 ?_
    refine E_al rfl L0 ?_
    refine E_gr rfl hh (q := 84) rfl ?_
    refine E_ci 5 rfl (by decide) ?_
    refine E_ial rfl hh rfl (by omega) (by decide) (show gi h 84 5 = nJ ((gn h0 84 5)) from by rw [fr_gi hfr (rg_no rfl _)]; exact gi_gn hh0 rfl (by decide)) ?_
    refine E_icF rfl (decide_eq_false (fun q => absurd ((nJ_le (by omega) (by omega)).mp q) (by omega))) ?_
    have v := hV k (show k < gn h0 84 5 by omega)
    have hact : gn h0 87 (3 * k + 1) < gn h0 84 3 ∧ ((gn h0 87 (3 * k) = 0 ∧ 1 ≤ gn h0 87 (3 * k + 2) ∧ gn h0 87 (3 * k + 2) ≤ gn h0 84 0) ∨ (gn h0 87 (3 * k) = 1 ∧ gn h0 87 (3 * k + 2) < gn h0 84 3)) := v
    have ha1 : gn h0 87 (3 * k + 1) ≤ 7 := gn_hi hh0 (bd_87b (by omega) (by omega)) (by decide)
    have ha2 : gn h0 87 (3 * k + 2) ≤ 8 := gn_hi hh0 (bd_87c (by omega) (by omega)) (by decide)
    have ha0 : gn h0 87 (3 * k) ≤ 1 := gn_hi hh0 (bd_87a (by omega) (by omega)) (by decide)
    refine E_al rfl L0 ?_
    refine E_gr rfl hh (q := 87) rfl ?_
    refine E_ci 3 rfl (by decide) ?_
    refine E_il rfl L1 ?_
    refine E_bin rfl (nJ_mul _ _) ?_
    refine E_ci 1 rfl (by decide) ?_
    refine E_bin rfl (nJ_add _ _) ?_
    refine E_ial rfl hh rfl (by omega) (by decide) (show gi h 87 (((3 * k) + 1)) = nJ ((gn h0 87 (3 * k + 1))) from by rw [fr_gi hfr (rg_no rfl _)]; exact gi_gn hh0 (bd_87b (by omega) (by omega)) (by decide)) ?_
    refine E_is rfl (fun lv1 L1_2 kp1 => ?_)
    have L1_0 := kp1 0 _ (by decide) rfl L0
    have L1_1 := kp1 1 _ (by decide) rfl L1
    refine E_al rfl L1_0 ?_
    refine E_gr rfl hh (q := 87) rfl ?_
    refine E_ci 3 rfl (by decide) ?_
    refine E_il rfl L1_1 ?_
    refine E_bin rfl (nJ_mul _ _) ?_
    refine E_ci 2 rfl (by decide) ?_
    refine E_bin rfl (nJ_add _ _) ?_
    refine E_ial rfl hh rfl (by omega) (by decide) (show gi h 87 (((3 * k) + 2)) = nJ ((gn h0 87 (3 * k + 2))) from by rw [fr_gi hfr (rg_no rfl _)]; exact gi_gn hh0 (bd_87c (by omega) (by omega)) (by decide)) ?_
    refine E_is rfl (fun lv2 L2_3 kp2 => ?_)
    have L2_0 := kp2 0 _ (by decide) rfl L1_0
    have L2_1 := kp2 1 _ (by decide) rfl L1_1
    have L2_2 := kp2 2 _ (by decide) rfl L1_2
    refine E_al rfl L2_0 ?_
    refine E_gr rfl hh (q := 87) rfl ?_
    refine E_ci 3 rfl (by decide) ?_
    refine E_il rfl L2_1 ?_
    refine E_bin rfl (nJ_mul _ _) ?_
    refine E_ial rfl hh rfl (by omega) (by decide) (show gi h 87 ((3 * k)) = nJ ((gn h0 87 (3 * k))) from by rw [fr_gi hfr (rg_no rfl _)]; exact gi_gn hh0 (bd_87a (by omega) (by omega)) (by decide)) ?_
    by_cases hb3 : ¬ (gn h0 87 (3 * k)) = 0
    · refine E_ifT rfl (decide_eq_true (fun q => hb3 ((nJ_eq0 (by omega)).mp q))) ?_
      refine E_al rfl L2_0 ?_
      refine E_il rfl L2_2 ?_
      refine E_il rfl L2_3 ?_
      have hA : gn h0 87 (3 * k + 1) < gn h0 84 3 ∧ gn h0 87 (3 * k + 2) < gn h0 84 3 := ⟨hact.1, by omega⟩
      refine E_call rfl (sp_trade hh (by omega) (by omega)) (chk77 hh rfl rfl (by show 0 ≤ 8; decide)) (fun hq rq => ?_)
      rintro ⟨e9, hhq, he9⟩
      rw [e9]
      show Ends _ _ (113, lv2, [], hq, 0, 0) _
      refine E_inc rfl L2_1 (nJ_inc _) (fun lv4 L4_1 kp4 => ?_)
      have L4_0 := kp4 0 _ (by decide) rfl L2_0
      have L4_2 := kp4 2 _ (by decide) rfl L2_2
      have L4_3 := kp4 3 _ (by decide) rfl L2_3
      refine E_goto rfl ?_
      refine ih lv4 (by omega) hhq (he9 ▸ fr_ptr (l := 0) (u := 7) rfl (by omega) (by omega) (fr_ptr (l := 0) (u := 7) rfl (by omega) (by omega) hfr)) (by rw [he9, gi_ne (by omega), gi_ne (by omega)]; exact ga) (by rw [he9, gi_ne (by omega), gi_ne (by omega)]; exact gb) (fun c hc => ?_) L4_0 L4_1
      have hx8 : gn h 89 (gn h0 87 (3 * k + 2)) ≤ 8 := gn_hi hh (bd_u rfl (by omega)) (by decide)
      have hy8 : gn h 89 (gn h0 87 (3 * k + 1)) ≤ 8 := gn_hi hh (bd_u rfl (by omega)) (by decide)
      have hh5 : HH (pt h 89 (gn h0 87 (3 * k + 1)) (nJ (gn h 89 (gn h0 87 (3 * k + 2))))) := HH_ptn hh (bd_u rfl (by omega)) (by omega) (by omega) (by omega)
      have ez : ¬ Z9 h0 k = 0 := hb3
      show gn hq 89 c = dAct (C9 h0) (G9 h0) (Z9 h0) k (nwF (C9 h0) (G9 h0) (Z9 h0) (t9 h0) k) c
      rw [he9, gn_fup hh5 (bd_u rfl (by omega)) (by omega) (by omega) (by omega), gn_fup hh (bd_u rfl (by omega)) (by omega) (by omega) (by omega), ← dAct_cg (f' := gn h 89) rfl rfl rfl v hw c hc]
      unfold dAct
      rw [if_neg ez]
      rfl
    · refine E_ifF rfl (decide_eq_false (fun q => hb3 (fun z => q ((nJ_eq0 (by omega)).mpr z)))) ?_
      refine E_al rfl L2_0 ?_
      refine E_gr rfl hh (q := 89) rfl ?_
      refine E_il rfl L2_2 ?_
      refine E_il rfl L2_3 ?_
      refine E_ias rfl hh rfl (by omega) (by decide) ?_
      have hh5 : HH (pt h 89 ((gn h0 87 (3 * k + 1))) (nJ ((gn h0 87 (3 * k + 2))))) := HH_ptn hh (bd_u rfl (by omega)) (by omega) (by omega) (by omega)
      refine E_goto rfl ?_
      refine E_inc rfl L2_1 (nJ_inc _) (fun lv6 L6_1 kp6 => ?_)
      have L6_0 := kp6 0 _ (by decide) rfl L2_0
      have L6_2 := kp6 2 _ (by decide) rfl L2_2
      have L6_3 := kp6 3 _ (by decide) rfl L2_3
      refine E_goto rfl ?_
      refine ih lv6 (by omega) hh5 (fr_ptr (l := 0) (u := 7) rfl (by omega) (by omega) hfr) (by rw [gi_ne (by omega)]; exact ga) (by rw [gi_ne (by omega)]; exact gb) (fun c hc => ?_) L6_0 L6_1
      have ez : Z9 h0 k = 0 := Classical.not_not.mp hb3
      show gn (pt h 89 ((gn h0 87 (3 * k + 1))) (nJ ((gn h0 87 (3 * k + 2))))) 89 c = dAct (C9 h0) (G9 h0) (Z9 h0) k (nwF (C9 h0) (G9 h0) (Z9 h0) (t9 h0) k) c
      rw [gn_fup hh (bd_u rfl (by omega)) (by omega) (by omega) (by omega), ← dAct_cg (f' := gn h 89) rfl rfl rfl v hw c hc]
      unfold dAct
      rw [if_pos ez]
      rfl
theorem ly_oneX {h0 : pm_H} {d : Nat} {a b : Int32} (hh0 : HH h0) (hV : V9 h0) (j : Nat) : ∀ {h : pm_H} {c : Nat} (lv : List (Nat × Value)), c + j = gn h0 84 3 → HH h → fr_g YM h0 h → gi h 77 22 = a → gi h 77 23 = b → (∀ c1, c1 < c → gn h 89 c1 = t9 h0 c1) → pm_get lv 0 = some (.ref 77) → pm_get lv 1 = some (.int (nJ c)) → Ends (pm_at tX9_lays) (pm_Rt pm_P (d + 1)) (24, lv, [], h, 0, 0) (fun h' r => r = none ∧ HH h' ∧ fr_g YM h0 h' ∧ gi h' 77 22 = a ∧ gi h' 77 23 = b ∧ ∀ c, c < gn h0 84 3 → gn h' 89 c = W9 h0 c) := by
  have hC : gn h0 84 3 ≤ 8 := gn_hi hh0 rfl (by decide)
  induction j with
  | zero =>
    intro h c lv hj hh hfr ga gb hw L0 L1
    have hce : gn h 84 3 = gn h0 84 3 := fr_gn hfr (rg_no rfl _)
    refine E_il rfl L1 ?_
    refine E_al rfl L0 ?_
    refine E_call rfl (sp_cars hh) (chk77 hh rfl rfl (by show 1 ≤ 8; decide)) (fun h1 r1 => ?_)
    rintro ⟨e1, f1, c1⟩
    rw [e1, f1]
    show Ends _ _ (29, lv, [.int (nJ (gn h 84 3)), .int (nJ c)], h, 0, 0) _
    refine E_icT rfl (decide_eq_true ((nJ_le (by omega) (by omega)).mpr (by omega))) ?_
    refine E_ci 0 rfl (by decide) ?_
    refine E_is rfl (fun lv2 L2_1 kp2 => ?_)
    have L2_0 := kp2 0 _ (by decide) rfl L0
    exact ly_twoX hh0 hV (gn h0 84 5) (k := 0) lv2 (by omega) hh hfr ga gb (fun c1 hc1 => hw c1 (by omega)) L2_0 L2_1
  | succ j ih =>
    intro h c lv hj hh hfr ga gb hw L0 L1
    have hce : gn h 84 3 = gn h0 84 3 := fr_gn hfr (rg_no rfl _)
    refine E_il rfl L1 ?_
    refine E_al rfl L0 ?_
    refine E_call rfl (sp_cars hh) (chk77 hh rfl rfl (by show 1 ≤ 8; decide)) (fun h1 r1 => ?_)
    rintro ⟨e1, f1, c1⟩
    rw [e1, f1]
    show Ends _ _ (29, lv, [.int (nJ (gn h 84 3)), .int (nJ c)], h, 0, 0) _
    refine E_icF rfl (decide_eq_false (fun q => absurd ((nJ_le (by omega) (by omega)).mp q) (by omega))) ?_
    have ht8 : gn h0 85 (2 * c) ≤ 8 := gn_hi hh0 (bd_85 (by omega) (by omega)) (by decide)
    refine E_al rfl L0 ?_
    refine E_gr rfl hh (q := 89) rfl ?_
    refine E_il rfl L1 ?_
    refine E_al rfl L0 ?_
    refine E_gr rfl hh (q := 85) rfl ?_
    refine E_ci 2 rfl (by decide) ?_
    refine E_il rfl L1 ?_
    refine E_bin rfl (nJ_mul _ _) ?_
    refine E_ial rfl hh rfl (by omega) (by decide) (show gi h 85 ((2 * c)) = nJ ((gn h0 85 (2 * c))) from by rw [fr_gi hfr (rg_no rfl _)]; exact gi_gn hh0 (bd_85 (by omega) (by omega)) (by decide)) ?_
    refine E_ias rfl hh rfl (by omega) (by decide) ?_
    have hh2 : HH (pt h 89 c (nJ ((gn h0 85 (2 * c))))) := HH_ptn hh (bd_u rfl (by omega)) (by omega) (by omega) (by omega)
    refine E_inc rfl L1 (nJ_inc _) (fun lv3 L3_1 kp3 => ?_)
    have L3_0 := kp3 0 _ (by decide) rfl L0
    refine E_goto rfl ?_
    refine ih lv3 (by omega) hh2 (fr_ptr (l := 0) (u := 7) rfl (by omega) (by omega) hfr) (by rw [gi_ne (by omega)]; exact ga) (by rw [gi_ne (by omega)]; exact gb) (fun c1 hc1 => ?_) L3_0 L3_1
    by_cases e : c1 = c
    · rw [e, gn_ptn hh (bd_u rfl (by omega)) (by omega) (by omega) (by omega)]; rfl
    · rw [gn_ne (fun _ => e)]; exact hw c1 (by omega)
theorem cm_bits : ∀ {c : Nat}, c ≤ 8 → (nJ 1 <<< (nJ c &&& 31)) - nJ 1 = nJ (2 ^ c - 1) := by
  intro c hc
  have : ∀ c : Fin 9, (nJ 1 <<< (nJ c.val &&& 31)) - nJ 1 = nJ (2 ^ c.val - 1) := by decide
  exact this ⟨c, by omega⟩
theorem sp_laysX {h0 : pm_H} {d : Nat} (hh0 : HH h0) (hV : V9 h0) : Sp (d + 2) 293 h0 [.ref 77] (fun h' r => r = none ∧ HH h' ∧ fr_g YM h0 h' ∧ gi h' 77 22 = nJ (gn h0 84 1) ∧ gi h' 77 23 = nJ (2 ^ gn h0 84 3 - 1) ∧ ∀ c, c < gn h0 84 3 → gn h' 89 c = W9 h0 c) := by
  refine Sp_of aiX9_lays rfl rfl rfl ?_
  refine E_al rfl (show pm_get (lv_args 0 [.ref 77]) 0 = _ from rfl) ?_
  refine E_al rfl (show pm_get (lv_args 0 [.ref 77]) 0 = _ from rfl) ?_
  refine E_gr rfl hh0 (q := 84) rfl ?_
  refine E_ci 1 rfl (by decide) ?_
  have b1 : gn h0 84 1 ≤ 3 := gn_hi hh0 rfl (by decide)
  refine E_ial rfl hh0 rfl (by omega) (by decide) (gi_gn hh0 rfl (by decide)) ?_
  refine E_pf rfl hh0 rfl ?_
  have hh2 : HH (pt h0 77 22 (nJ ((gn h0 84 1)))) := HH_ptn hh0 rfl (by omega) (by omega) (by omega)
  have fr2 : fr_g YM h0 (pt h0 77 22 (nJ ((gn h0 84 1)))) := fr_ptr (l := 22) (u := 22) rfl (by omega) (by omega) (fr_rf YM h0)
  refine E_al rfl (show pm_get (lv_args 0 [.ref 77]) 0 = _ from rfl) ?_
  refine E_ci 1 rfl (by decide) ?_
  refine E_al rfl (show pm_get (lv_args 0 [.ref 77]) 0 = _ from rfl) ?_
  refine E_call rfl (sp_cars hh2) (chk77 hh2 rfl rfl (by show 2 ≤ 8; decide)) (fun h3 r3 => ?_)
  rintro ⟨e3, f3, c3⟩
  rw [e3, f3]
  show Ends _ _ (16, (lv_args 0 [.ref 77]), [.int (nJ (gn (pt h0 77 22 (nJ ((gn h0 84 1)))) 84 3)), .int (nJ 1), .ref 77], (pt h0 77 22 (nJ ((gn h0 84 1)))), 0, 0) _
  refine E_bin rfl rfl ?_
  refine E_ci 1 rfl (by decide) ?_
  refine E_bin rfl rfl ?_
  have c8 : gn h0 84 3 ≤ 8 := gn_hi hh0 rfl (by decide)
  refine E_pf rfl hh2 rfl ?_
  have hh4 : HH (pt (pt h0 77 22 (nJ ((gn h0 84 1)))) 77 23 ((nJ 1 <<< (nJ ((gn (pt h0 77 22 (nJ ((gn h0 84 1)))) 84 3)) &&& 31)) - nJ 1)) := HH_pt hh2 rfl (ai_lo _) (ai_hi _)
  have fr4 : fr_g YM h0 (pt (pt h0 77 22 (nJ ((gn h0 84 1)))) 77 23 ((nJ 1 <<< (nJ ((gn (pt h0 77 22 (nJ ((gn h0 84 1)))) 84 3)) &&& 31)) - nJ 1)) := fr_ptr (l := 23) (u := 23) rfl (by omega) (by omega) fr2
  refine E_ci 0 rfl (by decide) ?_
  refine E_is rfl (fun lv5 L5_1 kp5 => ?_)
  have L5_0 := kp5 0 _ (by decide) rfl (show pm_get (lv_args 0 [.ref 77]) 0 = _ from rfl)
  refine ly_oneX hh0 hV (gn h0 84 3) (c := 0) lv5 (by omega) hh4 fr4 ?_ ?_ (fun c1 hc1 => absurd hc1 (Nat.not_lt_zero _)) L5_0 L5_1
  · rw [gi_ne (by omega)]
    exact gi_ptn hh0 rfl (by omega) (by omega) (by omega)
  · rw [gi_pt hh2 rfl (ai_lo _) (ai_hi _), gn_ne (by omega)]
    exact cm_bits c8
/-- the reference's street is in order -/
theorem V9_of {h : pm_H} (R : QRE h) : V9 h := fun i hi => by
  obtain ⟨⟨s1, s2, s3, s4, s5⟩, sa, sd, b, tj, ac, vt, va, nw⟩ := R.2.1
  have e6 : gn h 15 6 = gn h 84 5 := gn_eq (show gi h 15 6 = gi h 84 5 from sa)
  have e4 : gn h 15 4 = gn h 84 3 := gn_eq s3
  have e0 : gn h 15 0 = gn h 84 0 := gn_eq (s2 0 (by omega))
  have v := va i (by omega)
  have a := ac i (by omega)
  have a1 : gn h (15 + 6) i = C9 h i := by have := gn_eq a.1; rw [show 60 * 0 + (3 * i + 1) = 3 * i + 1 by omega] at this; exact this
  have a2 : gn h (15 + 7) i = G9 h i := by have := gn_eq a.2.1; rw [show 60 * 0 + (3 * i + 2) = 3 * i + 2 by omega] at this; exact this
  have a3 : gn h (15 + 8) i = Z9 h i := by have := gn_eq a.2.2; rw [show 60 * 0 + 3 * i = 3 * i by omega] at this; exact this
  unfold vAct at v ⊢
  rw [← a1, ← a2, ← a3, ← e4, ← e0]
  exact v
/-- what is wanted now, of both -/
theorem now_eq {h : pm_H} (R : QRE h) : ∀ j, j < gn h 84 3 → gn h 17 j = W9 h j ∧ 1 ≤ W9 h j ∧ W9 h j ≤ gn h 84 0 := fun j hj => by
  have V := V9_of R
  obtain ⟨⟨s1, s2, s3, s4, s5⟩, sa, sd, b, tj, ac, vt, va, nw⟩ := R.2.1
  have e6 : gn h 15 6 = gn h 84 5 := gn_eq (show gi h 15 6 = gi h 84 5 from sa)
  have e4 : gn h 15 4 = gn h 84 3 := gn_eq s3
  have e0 : gn h 15 0 = gn h 84 0 := gn_eq (s2 0 (by omega))
  have te : ∀ c, c < gn h 84 3 → gn h 16 c = t9 h c := fun c hc => by
    have := gn_eq (tj.1 c (by omega))
    rw [show 16 * 0 + 2 * c = 2 * c by omega] at this
    exact this
  have ne := nw j (by omega)
  rw [e6] at ne
  have cg := nwF_cg (C' := gn h 21) (G' := gn h 22) (Z' := gn h 23) (t' := gn h 16) (gn h 84 5) (fun i hi => by
    have a := ac i (by omega)
    have a1 := gn_eq a.1
    have a2 := gn_eq a.2.1
    have a3 := gn_eq a.2.2
    rw [show 60 * 0 + (3 * i + 1) = 3 * i + 1 by omega] at a1
    rw [show 60 * 0 + (3 * i + 2) = 3 * i + 2 by omega] at a2
    rw [show 60 * 0 + 3 * i = 3 * i by omega] at a3
    exact ⟨a1, a2, a3⟩) V te j hj
  refine ⟨?_, nwF_in (gn h 84 5) V (fun c hc => ?_) j hj⟩
  · exact (show gn h 17 j = nwF (gn h 21) (gn h 22) (gn h 23) (gn h 16) (gn h 84 5) j from ne).trans cg
  · have := vt c (by omega)
    rw [show gn h (15 + 1) c = t9 h c from te c hc, e0] at this
    exact this
end
section
/-! who parks where: one pure law, and the class's Lot (wants t47, t56, u55) -/
noncomputable def ff (m p : Nat) : Nat → Nat → Nat
  | 0, _ => 0
  | j + 1, q => if q ≤ p then (if isB m (q - 1) = false then q else ff m p j (q + 1)) else 0
noncomputable def nf (m p w : Nat) : Nat → Nat → Nat
  | 0, _ => 0
  | j + 1, k => if k < p then (if w + k ≤ p ∧ isB m (w + k - 1) = false then w + k else if 1 + k ≤ w ∧ isB m (w - k - 1) = false then w - k else nf m p w j (k + 1)) else 0
/-- the place that one finds who wants w, by law l, of p places with those of m taken; 0: none -/
noncomputable def sf (l p m w : Nat) : Nat := if isB m (w - 1) = false then w else if l = 1 ∧ 2 ≤ w ∧ isB m (w - 2) = false then w - 1 else if l = 2 then nf m p w 10 1 else if ff m p 10 (w + 1) = 0 ∧ l = 3 then ff m p 10 1 else ff m p 10 (w + 1)
noncomputable def okS (p m q : Nat) : Prop := q = 0 ∨ (1 ≤ q ∧ q ≤ p ∧ isB m (q - 1) = false)
theorem ff_ok {m p : Nat} : ∀ {j q : Nat}, 1 ≤ q → okS p m (ff m p j q)
  | 0, _, _ => .inl rfl
  | j + 1, q, h => by
    unfold ff
    by_cases b : q ≤ p
    · rw [if_pos b]
      by_cases c : isB m (q - 1) = false
      · rw [if_pos c]; exact .inr ⟨h, b, c⟩
      · rw [if_neg c]; exact ff_ok (by omega)
    · rw [if_neg b]; exact .inl rfl
theorem nf_ok {m p w : Nat} (hw : w ≤ p) : ∀ {j k : Nat}, 1 ≤ k → okS p m (nf m p w j k)
  | 0, _, _ => .inl rfl
  | j + 1, k, h => by
    unfold nf
    by_cases b : k < p
    · rw [if_pos b]
      by_cases c : w + k ≤ p ∧ isB m (w + k - 1) = false
      · rw [if_pos c]; exact .inr ⟨by omega, c.1, c.2⟩
      · rw [if_neg c]
        by_cases e : 1 + k ≤ w ∧ isB m (w - k - 1) = false
        · rw [if_pos e]; exact .inr ⟨by omega, by omega, e.2⟩
        · rw [if_neg e]; exact nf_ok hw (by omega)
    · rw [if_neg b]; exact .inl rfl
theorem sf_ok {l p m w : Nat} (h1 : 1 ≤ w) (h2 : w ≤ p) : okS p m (sf l p m w) := by
  unfold sf
  by_cases a : isB m (w - 1) = false
  · rw [if_pos a]; exact .inr ⟨h1, h2, a⟩
  rw [if_neg a]
  by_cases b : l = 1 ∧ 2 ≤ w ∧ isB m (w - 2) = false
  · rw [if_pos b]; exact .inr ⟨by omega, by omega, b.2.2⟩
  rw [if_neg b]
  by_cases c : l = 2
  · rw [if_pos c]; exact nf_ok h2 (by omega)
  rw [if_neg c]
  by_cases e : ff m p 10 (w + 1) = 0 ∧ l = 3
  · rw [if_pos e]; exact ff_ok (by omega)
  · rw [if_neg e]; exact ff_ok (by omega)
noncomputable def ad (m q : Nat) : Nat := if q = 0 then m else m + 2 ^ (q - 1)
/-- places taken by the first n of the set s -/
noncomputable def tk (l p s : Nat) (W : Nat → Nat) : Nat → Nat
  | 0 => 0
  | n + 1 => ad (tk l p s W n) (if isB s n = true then sf l p (tk l p s W n) (W n) else 0)
noncomputable def spt (l p s : Nat) (W : Nat → Nat) (n : Nat) : Nat := if isB s n = true then sf l p (tk l p s W n) (W n) else 0
noncomputable def mss (l p s : Nat) (W : Nat → Nat) : Nat → Nat
  | 0 => 0
  | n + 1 => if isB s n = true ∧ spt l p s W n = 0 then mss l p s W n + 2 ^ n else mss l p s W n
noncomputable def dst (a b : Nat) : Nat := (a - b) + (b - a)
noncomputable def wlk (l p s : Nat) (W : Nat → Nat) : Nat → Nat
  | 0 => 0
  | n + 1 => wlk l p s W n + (if spt l p s W n = 0 then 0 else dst (spt l p s W n) (W n))
theorem tk_s {l p s n : Nat} {W : Nat → Nat} : tk l p s W (n + 1) = ad (tk l p s W n) (spt l p s W n) := rfl
theorem ad_lt {p m q : Nat} (hp : p ≤ 9) (hm : m < 2 ^ p) (h : okS p m q) : ad m q < 2 ^ p := by
  unfold ad
  rcases h with h | ⟨h1, h2, h3⟩
  · rw [if_pos h]; exact hm
  · rw [if_neg (by omega)]
    have m5 : m < 512 := Nat.lt_of_lt_of_le hm (Nat.pow_le_pow_right (n := 2) (by omega) hp)
    exact add_tab ⟨p, by omega⟩ ⟨m, m5⟩ hm ⟨q - 1, by omega⟩ (by show q - 1 < p; omega) h3
theorem spt_ok {l p s n : Nat} {W : Nat → Nat} (h1 : 1 ≤ W n) (h2 : W n ≤ p) : okS p (tk l p s W n) (spt l p s W n) := by
  unfold spt
  split
  · exact sf_ok h1 h2
  · exact .inl rfl
theorem tk_lt {l p s : Nat} {W : Nat → Nat} (hp : p ≤ 9) : ∀ {n : Nat}, (∀ c, c < n → 1 ≤ W c ∧ W c ≤ p) → tk l p s W n < 2 ^ p
  | 0, _ => Nat.pow_pos (by omega)
  | n + 1, h => by
    rw [tk_s]
    exact ad_lt hp (tk_lt hp (fun c hc => h c (by omega))) (spt_ok (h n (by omega)).1 (h n (by omega)).2)
theorem isB_hi {m k : Nat} (h : m < 2 ^ k) : isB m k = false := by
  unfold isB
  rw [Nat.div_eq_of_lt h]
  rfl
theorem mss_lt {l p s : Nat} {W : Nat → Nat} : ∀ (n : Nat), mss l p s W n < 2 ^ n
  | 0 => by show 0 < 1; omega
  | n + 1 => by
    have := mss_lt (l := l) (p := p) (s := s) (W := W) n
    have e : 2 ^ (n + 1) = 2 ^ n + 2 ^ n := by rw [Nat.pow_succ]; omega
    show (if isB s n = true ∧ spt l p s W n = 0 then mss l p s W n + 2 ^ n else mss l p s W n) < _
    split <;> omega
theorem dst_le {a b p : Nat} (h1 : 1 ≤ a) (h2 : a ≤ p) (h3 : 1 ≤ b) (h4 : b ≤ p) : dst a b < p := by unfold dst; omega
theorem wlk_le {l p s : Nat} {W : Nat → Nat} : ∀ {n : Nat}, (∀ c, c < n → 1 ≤ W c ∧ W c ≤ p) → wlk l p s W n ≤ n * p
  | 0, _ => by show 0 ≤ 0 * p; omega
  | n + 1, h => by
    have q := wlk_le (l := l) (s := s) (p := p) (fun c hc => h c (Nat.lt_succ_of_lt hc))
    have o := spt_ok (l := l) (s := s) (h n (by omega)).1 (h n (by omega)).2
    have w := h n (by omega)
    have e : (n + 1) * p = n * p + p := Nat.succ_mul n p
    show wlk l p s W n + (if spt l p s W n = 0 then 0 else dst (spt l p s W n) (W n)) ≤ (n + 1) * p
    by_cases z : spt l p s W n = 0
    · rw [if_pos z]; omega
    · rw [if_neg z]
      rcases o with o | ⟨o1, o2, -⟩
      · exact absurd o z
      · have := dst_le o1 o2 w.1 w.2
        omega
/-! the law depends on what it reads alone -/
theorem sf_W {l p s n : Nat} {W W' : Nat → Nat} (e : ∀ c, c < n → W c = W' c) : tk l p s W n = tk l p s W' n := by
  induction n with
  | zero => rfl
  | succ n ih =>
    have i := ih (fun c hc => e c (by omega))
    rw [tk_s, tk_s]
    unfold spt
    rw [i, e n (by omega)]
theorem spt_W {l p s n : Nat} {W W' : Nat → Nat} (e : ∀ c, c ≤ n → W c = W' c) : spt l p s W n = spt l p s W' n := by
  unfold spt
  rw [sf_W (fun c hc => e c (by omega)), e n (Nat.le_refl n)]
theorem mss_W {l p s n : Nat} {W W' : Nat → Nat} (e : ∀ c, c < n → W c = W' c) : mss l p s W n = mss l p s W' n := by
  induction n with
  | zero => rfl
  | succ n ih =>
    have i := ih (fun c hc => e c (by omega))
    show (if _ ∧ spt l p s W n = 0 then mss l p s W n + 2 ^ n else mss l p s W n) = (if _ ∧ spt l p s W' n = 0 then mss l p s W' n + 2 ^ n else mss l p s W' n)
    rw [i, spt_W (fun c hc => e c (by omega))]
theorem wlk_W {l p s n : Nat} {W W' : Nat → Nat} (e : ∀ c, c < n → W c = W' c) : wlk l p s W n = wlk l p s W' n := by
  induction n with
  | zero => rfl
  | succ n ih =>
    have i := ih (fun c hc => e c (by omega))
    show wlk l p s W n + (if spt l p s W n = 0 then 0 else dst (spt l p s W n) (W n)) = wlk l p s W' n + (if spt l p s W' n = 0 then 0 else dst (spt l p s W' n) (W' n))
    rw [i, spt_W (fun c hc => e c (by omega)), e n (by omega)]
/-! the class -/
theorem fr0_tab : ∀ m : Fin 512, ∀ k : Fin 9, (nJ m.val >>> (nJ k.val &&& 31) &&& nJ 1 = 0) ↔ isB m.val k.val = false := by decide +kernel
theorem or2_tab : ∀ m : Fin 512, ∀ k : Fin 9, isB m.val k.val = false → nJ m.val ||| nJ (2 ^ k.val) = nJ (m.val + 2 ^ k.val) := by decide +kernel
section LOT
variable {h : pm_H} {d : Nat}
theorem sp_isFree8 {m q : Nat} (hm : m < 512) (q1 : 1 ≤ q) (q9 : q ≤ 9) : Sp (d + 1) 23 h [.int (nJ m), .int (nJ q)] (fun h' r => h' = h ∧ r = some (.int (zb (isB m (q - 1) = false)))) := by
  refine Sp_of aiX1_isFree rfl rfl rfl ?_
  have L0 : pm_get (lv_args 0 [.int (nJ m), .int (nJ q)]) 0 = some (.int (nJ m)) := rfl
  have L1 : pm_get (lv_args 0 [.int (nJ m), .int (nJ q)]) 1 = some (.int (nJ q)) := rfl
  generalize lv_args 0 [.int (nJ m), .int (nJ q)] = lv at L0 L1 ⊢
  have tb := fr0_tab ⟨m, hm⟩ ⟨q - 1, by omega⟩
  refine E_il rfl L0 ?_
  refine E_il rfl L1 ?_
  refine E_ci 1 rfl (by decide) ?_
  refine E_bin rfl (nJ_sub q1) ?_
  refine E_bin rfl rfl ?_
  refine E_ci 1 rfl (by decide) ?_
  refine E_bin rfl rfl ?_
  by_cases b : isB m (q - 1) = false
  · refine E_ifF rfl (decide_eq_false (fun z => z (tb.mpr b))) ?_
    refine E_ci 1 rfl (by decide) ?_
    refine E_goto rfl ?_
    exact E_rtz rfl (.inr rfl) ⟨rfl, by rw [zb_T b]⟩
  · refine E_ifT rfl (decide_eq_true (fun z => b (tb.mp z))) ?_
    refine E_ci 0 rfl (by decide) ?_
    exact E_rtz rfl (.inl rfl) ⟨rfl, by rw [zb_F b]⟩
theorem ff_loop {m p : Nat} (hm : m < 512) (p9 : p ≤ 9) (j : Nat) : ∀ {q : Nat} (lv : List (Nat × Value)), 1 ≤ q → q ≤ 10 → p < q + j → pm_get lv 0 = some (.int (nJ p)) → pm_get lv 1 = some (.int (nJ m)) → pm_get lv 3 = some (.int (nJ q)) → Ends (pm_at tX1_firstFree) (pm_Rt pm_P (d + 1)) (2, lv, [], h, 0, 0) (fun h' r => h' = h ∧ r = some (.int (nJ (ff m p j q)))) := by
  induction j with
  | zero =>
    intro q lv q1 q10 hj L0 L1 L3
    refine E_il rfl L3 ?_
    refine E_il rfl L0 ?_
    refine E_icT rfl (decide_eq_true ((nJ_lt (by omega) (by omega)).mpr (by omega))) ?_
    refine E_ci 0 rfl (by decide) ?_
    exact E_rti rfl ⟨rfl, rfl⟩
  | succ j ih =>
    intro q lv q1 q10 hj L0 L1 L3
    unfold ff
    refine E_il rfl L3 ?_
    refine E_il rfl L0 ?_
    by_cases b : q ≤ p
    · refine E_icF rfl (decide_eq_false (fun z => absurd ((nJ_lt (by omega) (by omega)).mp z) (by omega))) ?_
      rw [if_pos b]
      refine E_il rfl L1 ?_
      refine E_il rfl L3 ?_
      refine E_call rfl (sp_isFree8 (d := d) hm q1 (by omega)) (chkS rfl (by show 0 ≤ 8; decide)) (fun h1 r1 => ?_)
      rintro ⟨e1, f1⟩
      rw [e1, f1]
      by_cases c : isB m (q - 1) = false
      · refine E_ifF rfl (by rw [zb_T c]; rfl) ?_
        rw [if_pos c]
        refine E_il rfl L3 ?_
        exact E_rti rfl ⟨rfl, rfl⟩
      · refine E_ifT rfl (by rw [zb_F c]; rfl) ?_
        rw [if_neg c]
        refine E_inc rfl L3 (nJ_inc _) (fun lv1 K3 kp => ?_)
        refine E_goto rfl ?_
        exact ih lv1 (by omega) (by omega) (by omega) (kp 0 _ (by decide) rfl L0) (kp 1 _ (by decide) rfl L1) K3
    · refine E_icT rfl (decide_eq_true ((nJ_lt (by omega) (by omega)).mpr (by omega))) ?_
      rw [if_neg b]
      refine E_ci 0 rfl (by decide) ?_
      exact E_rti rfl ⟨rfl, rfl⟩
theorem sp_firstFree {m p q : Nat} (hm : m < 512) (p9 : p ≤ 9) (q1 : 1 ≤ q) (q10 : q ≤ 10) : Sp (d + 2) 21 h [.int (nJ p), .int (nJ m), .int (nJ q)] (fun h' r => h' = h ∧ r = some (.int (nJ (ff m p 10 q)))) := by
  refine Sp_of aiX1_firstFree rfl rfl rfl ?_
  have L0 : pm_get (lv_args 0 [.int (nJ p), .int (nJ m), .int (nJ q)]) 0 = some (.int (nJ p)) := rfl
  have L1 : pm_get (lv_args 0 [.int (nJ p), .int (nJ m), .int (nJ q)]) 1 = some (.int (nJ m)) := rfl
  have L2 : pm_get (lv_args 0 [.int (nJ p), .int (nJ m), .int (nJ q)]) 2 = some (.int (nJ q)) := rfl
  generalize lv_args 0 [.int (nJ p), .int (nJ m), .int (nJ q)] = lv at L0 L1 L2 ⊢
  refine E_il rfl L2 ?_
  refine E_is rfl (fun lv1 K3 kp => ?_)
  exact ff_loop hm p9 10 lv1 q1 q10 (by omega) (kp 0 _ (by decide) rfl L0) (kp 1 _ (by decide) rfl L1) K3
theorem nf_loop {m p w : Nat} (hm : m < 512) (p9 : p ≤ 9) (w1 : 1 ≤ w) (wp : w ≤ p) (j : Nat) : ∀ {k : Nat} (lv : List (Nat × Value)), 1 ≤ k → k ≤ 10 → p ≤ k + j → pm_get lv 0 = some (.int (nJ p)) → pm_get lv 1 = some (.int (nJ m)) → pm_get lv 2 = some (.int (nJ w)) → pm_get lv 3 = some (.int (nJ k)) → Ends (pm_at tX1_nearestFree) (pm_Rt pm_P (d + 1)) (2, lv, [], h, 0, 0) (fun h' r => h' = h ∧ r = some (.int (nJ (nf m p w j k)))) := by
  induction j with
  | zero =>
    intro k lv k1 k10 hj L0 L1 L2 L3
    refine E_il rfl L3 ?_
    refine E_il rfl L0 ?_
    refine E_icT rfl (decide_eq_true ((nJ_le (by omega) (by omega)).mpr (by omega))) ?_
    refine E_ci 0 rfl (by decide) ?_
    exact E_rti rfl ⟨rfl, rfl⟩
  | succ j ih =>
    intro k lv k1 k10 hj L0 L1 L2 L3
    unfold nf
    refine E_il rfl L3 ?_
    refine E_il rfl L0 ?_
    by_cases b : k < p
    · refine E_icF rfl (decide_eq_false (fun z => absurd ((nJ_le (by omega) (by omega)).mp z) (by omega))) ?_
      rw [if_pos b]
      have low : ¬ (w + k ≤ p ∧ isB m (w + k - 1) = false) → Ends (pm_at tX1_nearestFree) (pm_Rt pm_P (d + 1)) (28, lv, [], h, 0, 0) (fun h' r => h' = h ∧ r = some (.int (nJ (if w + k ≤ p ∧ isB m (w + k - 1) = false then w + k else if 1 + k ≤ w ∧ isB m (w - k - 1) = false then w - k else nf m p w j (k + 1))))) := by
        intro c
        rw [if_neg c]
        have nx : ¬ (1 + k ≤ w ∧ isB m (w - k - 1) = false) → Ends (pm_at tX1_nearestFree) (pm_Rt pm_P (d + 1)) (49, lv, [], h, 0, 0) (fun h' r => h' = h ∧ r = some (.int (nJ (if 1 + k ≤ w ∧ isB m (w - k - 1) = false then w - k else nf m p w j (k + 1))))) := by
          intro e
          rw [if_neg e]
          refine E_inc rfl L3 (nJ_inc _) (fun lv1 K3 kp => ?_)
          refine E_goto rfl ?_
          exact ih lv1 (by omega) (by omega) (by omega) (kp 0 _ (by decide) rfl L0) (kp 1 _ (by decide) rfl L1) (kp 2 _ (by decide) rfl L2) K3
        refine E_il rfl L2 ?_
        refine E_il rfl L3 ?_
        refine E_bin rfl rfl ?_
        refine E_c rfl ?_
        have ti : (nJ w - nJ k).toInt = (w : Int) - (k : Int) := by
          rw [Int32.toInt_sub, nJ_toInt (by omega), nJ_toInt (by omega)]
          exact Int.bmod_eq_of_le (by omega) (by omega)
        have z1 : (1 : Int32).toInt = 1 := rfl
        by_cases e1 : 1 + k ≤ w
        · refine E_icF rfl (decide_eq_false (fun z => by have := Int32.lt_iff_toInt_lt.mp z; omega)) ?_
          refine E_il rfl L1 ?_
          refine E_il rfl L2 ?_
          refine E_il rfl L3 ?_
          refine E_bin rfl (nJ_sub (by omega)) ?_
          refine E_call rfl (sp_isFree8 (d := d) hm (by omega) (by omega)) (chkS rfl (by show 0 ≤ 8; decide)) (fun h1 r1 => ?_)
          rintro ⟨e2, f2⟩
          rw [e2, f2]
          by_cases e3 : isB m (w - k - 1) = false
          · refine E_ifF rfl (by rw [zb_T e3]; rfl) ?_
            rw [if_pos ⟨e1, e3⟩]
            refine E_il rfl L2 ?_
            refine E_il rfl L3 ?_
            refine E_bin rfl (nJ_sub (by omega)) ?_
            exact E_rti rfl ⟨rfl, rfl⟩
          · refine E_ifT rfl (by rw [zb_F e3]; rfl) ?_
            exact nx (fun q => e3 q.2)
        · refine E_icT rfl (decide_eq_true (Int32.lt_iff_toInt_lt.mpr (by omega))) ?_
          exact nx (fun q => e1 q.1)
      refine E_il rfl L2 ?_
      refine E_il rfl L3 ?_
      refine E_bin rfl (nJ_add _ _) ?_
      refine E_il rfl L0 ?_
      by_cases c1 : w + k ≤ p
      · refine E_icF rfl (decide_eq_false (fun z => absurd ((nJ_lt (by omega) (by omega)).mp z) (by omega))) ?_
        refine E_il rfl L1 ?_
        refine E_il rfl L2 ?_
        refine E_il rfl L3 ?_
        refine E_bin rfl (nJ_add _ _) ?_
        refine E_call rfl (sp_isFree8 (d := d) hm (by omega) (by omega)) (chkS rfl (by show 0 ≤ 8; decide)) (fun h1 r1 => ?_)
        rintro ⟨e2, f2⟩
        rw [e2, f2]
        by_cases c2 : isB m (w + k - 1) = false
        · refine E_ifF rfl (by rw [zb_T c2]; rfl) ?_
          rw [if_pos ⟨c1, c2⟩]
          refine E_il rfl L2 ?_
          refine E_il rfl L3 ?_
          refine E_bin rfl (nJ_add _ _) ?_
          exact E_rti rfl ⟨rfl, rfl⟩
        · refine E_ifT rfl (by rw [zb_F c2]; rfl) ?_
          exact low (fun q => c2 q.2)
      · refine E_icT rfl (decide_eq_true ((nJ_lt (by omega) (by omega)).mpr (by omega))) ?_
        exact low (fun q => c1 q.1)
    · refine E_icT rfl (decide_eq_true ((nJ_le (by omega) (by omega)).mpr (by omega))) ?_
      rw [if_neg b]
      refine E_ci 0 rfl (by decide) ?_
      exact E_rti rfl ⟨rfl, rfl⟩
theorem sp_nearestFree {m p w : Nat} (hm : m < 512) (p9 : p ≤ 9) (w1 : 1 ≤ w) (wp : w ≤ p) : Sp (d + 2) 24 h [.int (nJ p), .int (nJ m), .int (nJ w)] (fun h' r => h' = h ∧ r = some (.int (nJ (nf m p w 10 1)))) := by
  refine Sp_of aiX1_nearestFree rfl rfl rfl ?_
  have L0 : pm_get (lv_args 0 [.int (nJ p), .int (nJ m), .int (nJ w)]) 0 = some (.int (nJ p)) := rfl
  have L1 : pm_get (lv_args 0 [.int (nJ p), .int (nJ m), .int (nJ w)]) 1 = some (.int (nJ m)) := rfl
  have L2 : pm_get (lv_args 0 [.int (nJ p), .int (nJ m), .int (nJ w)]) 2 = some (.int (nJ w)) := rfl
  generalize lv_args 0 [.int (nJ p), .int (nJ m), .int (nJ w)] = lv at L0 L1 L2 ⊢
  refine E_ci 1 rfl (by decide) ?_
  refine E_is rfl (fun lv1 K3 kp => ?_)
  exact nf_loop hm p9 w1 wp 10 lv1 (by omega) (by omega) (by omega) (kp 0 _ (by decide) rfl L0) (kp 1 _ (by decide) rfl L1) (kp 2 _ (by decide) rfl L2) K3
theorem sp_spotFor {l p m w : Nat} (hl : l ≤ 3) (hm : m < 512) (p9 : p ≤ 9) (w1 : 1 ≤ w) (wp : w ≤ p) : Sp (d + 3) 25 h [.int (nJ l), .int (nJ p), .int (nJ m), .int (nJ w)] (fun h' r => h' = h ∧ r = some (.int (nJ (sf l p m w)))) := by
  refine Sp_of aiX1_spotFor rfl rfl rfl ?_
  have L0 : pm_get (lv_args 0 [.int (nJ l), .int (nJ p), .int (nJ m), .int (nJ w)]) 0 = some (.int (nJ l)) := rfl
  have L1 : pm_get (lv_args 0 [.int (nJ l), .int (nJ p), .int (nJ m), .int (nJ w)]) 1 = some (.int (nJ p)) := rfl
  have L2 : pm_get (lv_args 0 [.int (nJ l), .int (nJ p), .int (nJ m), .int (nJ w)]) 2 = some (.int (nJ m)) := rfl
  have L3 : pm_get (lv_args 0 [.int (nJ l), .int (nJ p), .int (nJ m), .int (nJ w)]) 3 = some (.int (nJ w)) := rfl
  generalize lv_args 0 [.int (nJ l), .int (nJ p), .int (nJ m), .int (nJ w)] = lv at L0 L1 L2 L3 ⊢
  unfold sf
  refine E_il rfl L2 ?_
  refine E_il rfl L3 ?_
  refine E_call rfl (Sp_le (by omega) (sp_isFree8 (d := d) hm w1 (by omega))) (chkS rfl (by show 0 ≤ 8; decide)) (fun h1 r1 => ?_)
  rintro ⟨e1, f1⟩
  rw [e1, f1]
  by_cases a : isB m (w - 1) = false
  · refine E_ifF rfl (by rw [zb_T a]; rfl) ?_
    rw [if_pos a]
    refine E_il rfl L3 ?_
    exact E_rti rfl ⟨rfl, rfl⟩
  refine E_ifT rfl (by rw [zb_F a]; rfl) ?_
  rw [if_neg a]
  have at34 : ¬ (l = 1 ∧ 2 ≤ w ∧ isB m (w - 2) = false) → Ends (pm_at tX1_spotFor) (pm_Rt pm_P (d + 2)) (34, lv, [], h, 0, 0) (fun h' r => h' = h ∧ r = some (.int (nJ (if l = 1 ∧ 2 ≤ w ∧ isB m (w - 2) = false then w - 1 else if l = 2 then nf m p w 10 1 else if ff m p 10 (w + 1) = 0 ∧ l = 3 then ff m p 10 1 else ff m p 10 (w + 1))))) := by
    intro b
    rw [if_neg b]
    refine E_il rfl L0 ?_
    refine E_ci 2 rfl (by decide) ?_
    by_cases c : l = 2
    · refine E_icF rfl (decide_eq_false (fun z => z ((nJ_eq (by omega) (by omega)).mpr c))) ?_
      rw [if_pos c]
      refine E_il rfl L1 ?_
      refine E_il rfl L2 ?_
      refine E_il rfl L3 ?_
      refine E_call rfl (sp_nearestFree (d := d) hm p9 w1 wp) (chkS rfl (by show 0 ≤ 8; decide)) (fun h2 r2 => ?_)
      rintro ⟨e2, f2⟩
      rw [e2, f2]
      exact E_rti rfl ⟨rfl, rfl⟩
    · refine E_icT rfl (decide_eq_true (fun z => c ((nJ_eq (by omega) (by omega)).mp z))) ?_
      rw [if_neg c]
      refine E_il rfl L1 ?_
      refine E_il rfl L2 ?_
      refine E_il rfl L3 ?_
      refine E_ci 1 rfl (by decide) ?_
      refine E_bin rfl (nJ_add _ _) ?_
      refine E_call rfl (sp_firstFree (d := d) hm p9 (by omega) (by omega)) (chkS rfl (by show 0 ≤ 8; decide)) (fun h2 r2 => ?_)
      rintro ⟨e2, f2⟩
      rw [e2, f2]
      have fo := ff_ok (m := m) (p := p) (j := 10) (q := w + 1) (by omega)
      have f9 : ff m p 10 (w + 1) ≤ 9 := by rcases fo with q | ⟨_, q, _⟩ <;> omega
      refine E_is rfl (fun lv1 K4 kp => ?_)
      refine E_il rfl K4 ?_
      by_cases z : ff m p 10 (w + 1) = 0
      · refine E_ifF rfl (decide_eq_false (fun q => q ((nJ_eq0 (by omega)).mpr z))) ?_
        refine E_il rfl (kp 0 _ (by decide) rfl L0) ?_
        refine E_ci 3 rfl (by decide) ?_
        by_cases l3 : l = 3
        · refine E_icF rfl (decide_eq_false (fun q => q ((nJ_eq (by omega) (by omega)).mpr l3))) ?_
          rw [if_pos ⟨z, l3⟩]
          refine E_il rfl (kp 1 _ (by decide) rfl L1) ?_
          refine E_il rfl (kp 2 _ (by decide) rfl L2) ?_
          refine E_ci 1 rfl (by decide) ?_
          refine E_call rfl (sp_firstFree (d := d) hm p9 (by omega) (by omega)) (chkS rfl (by show 0 ≤ 8; decide)) (fun h3 r3 => ?_)
          rintro ⟨e3, f3⟩
          rw [e3, f3]
          refine E_goto rfl ?_
          exact E_rti rfl ⟨rfl, rfl⟩
        · refine E_icT rfl (decide_eq_true (fun q => l3 ((nJ_eq (by omega) (by omega)).mp q))) ?_
          rw [if_neg (fun q => l3 q.2)]
          refine E_il rfl K4 ?_
          exact E_rti rfl ⟨rfl, rfl⟩
      · refine E_ifT rfl (decide_eq_true (fun q => z ((nJ_eq0 (by omega)).mp q))) ?_
        rw [if_neg (fun q => z q.1)]
        refine E_il rfl K4 ?_
        exact E_rti rfl ⟨rfl, rfl⟩
  refine E_il rfl L0 ?_
  refine E_ci 1 rfl (by decide) ?_
  by_cases b1 : l = 1
  · refine E_icF rfl (decide_eq_false (fun z => z ((nJ_eq (by omega) (by omega)).mpr b1))) ?_
    refine E_il rfl L3 ?_
    refine E_ci 1 rfl (by decide) ?_
    by_cases b2 : 2 ≤ w
    · refine E_icF rfl (decide_eq_false (fun z => absurd ((nJ_le (by omega) (by omega)).mp z) (by omega))) ?_
      refine E_il rfl L2 ?_
      refine E_il rfl L3 ?_
      refine E_ci 1 rfl (by decide) ?_
      refine E_bin rfl (nJ_sub (by omega)) ?_
      refine E_call rfl (Sp_le (by omega) (sp_isFree8 (d := d) hm (show 1 ≤ w - 1 by omega) (by omega))) (chkS rfl (by show 0 ≤ 8; decide)) (fun h2 r2 => ?_)
      rintro ⟨e2, f2⟩
      rw [e2, f2, show w - 1 - 1 = w - 2 by omega]
      by_cases b3 : isB m (w - 2) = false
      · refine E_ifF rfl (by rw [zb_T b3]; rfl) ?_
        rw [if_pos ⟨b1, b2, b3⟩]
        refine E_il rfl L3 ?_
        refine E_ci 1 rfl (by decide) ?_
        refine E_bin rfl (nJ_sub (by omega)) ?_
        exact E_rti rfl ⟨rfl, rfl⟩
      · refine E_ifT rfl (by rw [zb_F b3]; rfl) ?_
        exact at34 (fun q => b3 q.2.2)
    · refine E_icT rfl (decide_eq_true ((nJ_le (by omega) (by omega)).mpr (by omega))) ?_
      exact at34 (fun q => b2 q.2.1)
  · refine E_icT rfl (decide_eq_true (fun z => b1 ((nJ_eq (by omega) (by omega)).mp z))) ?_
    exact at34 (fun q => b1 q.1)
end LOT
end
section
/-! the class's Lot, filled (wants u65) -/
noncomputable def LTP (l p s : Nat) (W : Nat → Nat) (n : Nat) (h : pm_H) : Prop := gi h 62 1 = nJ (tk l p s W n) ∧ gi h 62 2 = nJ (mss l p s W n) ∧ gi h 62 3 = nJ (wlk l p s W n) ∧ ∀ i, i < n → gi h 63 i = nJ (spt l p s W i)
noncomputable def FL : List Rng := [(62, 1, 3), (63, 0, 7)]
section FILL
variable {h : pm_H} {d : Nat}
theorem sp_absD {a b : Nat} (ha : a < 1000) (hb : b < 1000) : Sp (d + 1) 9 h [.int (nJ a - nJ b)] (fun h' r => h' = h ∧ r = some (.int (nJ (dst a b)))) := by
  refine Sp_of aiJ9_abs_0f7a4 rfl rfl rfl ?_
  have L0 : pm_get (lv_args 0 [.int (nJ a - nJ b)]) 0 = some (.int (nJ a - nJ b)) := rfl
  generalize lv_args 0 [.int (nJ a - nJ b)] = lv at L0 ⊢
  have ti : (nJ a - nJ b).toInt = (a : Int) - (b : Int) := by
    rw [Int32.toInt_sub, nJ_toInt (by omega), nJ_toInt (by omega)]
    exact Int.bmod_eq_of_le (by omega) (by omega)
  have z0 : (0 : Int32).toInt = 0 := rfl
  refine E_il rfl L0 ?_
  by_cases b1 : b ≤ a
  · refine E_ifT rfl (decide_eq_true (Int32.le_iff_toInt_le.mpr (by omega))) ?_
    refine E_il rfl L0 ?_
    exact E_rti rfl ⟨rfl, by rw [nJ_sub b1]; unfold dst; rw [show a - b + (b - a) = a - b by omega]⟩
  · refine E_ifF rfl (decide_eq_false (fun q => by have := Int32.le_iff_toInt_le.mp q; omega)) ?_
    refine E_il rfl L0 ?_
    refine E_un rfl ?_
    refine E_goto rfl ?_
    exact E_rti rfl ⟨rfl, by rw [Int32.neg_sub, nJ_sub (by omega)]; unfold dst; rw [show a - b + (b - a) = b - a by omega]⟩
theorem sp_come {c w q m ms wk p : Nat} (hh : HH h) (c7 : c ≤ 7) (w9 : w ≤ 9) (p9 : p ≤ 9) (hm : m < 512) (g1 : gi h 62 1 = nJ m) (ok : okS p m q) (hs : ms < 2 ^ c) (g2 : gi h 62 2 = nJ ms) (hw : wk < 1000) (g3 : gi h 62 3 = nJ wk) : Sp (d + 2) 19 h [.ref 62, .int (nJ c), .int (nJ w), .int (nJ q)] (fun h' r => r = none ∧ HH h' ∧ fr_g FL h h' ∧ gi h' 62 1 = nJ (ad m q) ∧ gi h' 62 2 = nJ (if q = 0 then ms + 2 ^ c else ms) ∧ gi h' 62 3 = nJ (wk + (if q = 0 then 0 else dst q w)) ∧ gn h' 63 = fup (gn h 63) c q) := by
  have q9 : q ≤ 9 := by rcases ok with e | ⟨_, e, _⟩ <;> omega
  have b63 : bd 63 c = some (0, 9) := bd_u rfl (by omega)
  have m5 : ms < 256 := Nat.lt_of_lt_of_le hs (Nat.le_trans (Nat.pow_le_pow_right (n := 2) (by omega) c7) (by decide))
  refine Sp_of aiX1_come rfl rfl rfl ?_
  have L0 : pm_get (lv_args 0 [.ref 62, .int (nJ c), .int (nJ w), .int (nJ q)]) 0 = some (.ref 62) := rfl
  have L1 : pm_get (lv_args 0 [.ref 62, .int (nJ c), .int (nJ w), .int (nJ q)]) 1 = some (.int (nJ c)) := rfl
  have L2 : pm_get (lv_args 0 [.ref 62, .int (nJ c), .int (nJ w), .int (nJ q)]) 2 = some (.int (nJ w)) := rfl
  have L3 : pm_get (lv_args 0 [.ref 62, .int (nJ c), .int (nJ w), .int (nJ q)]) 3 = some (.int (nJ q)) := rfl
  generalize lv_args 0 [.ref 62, .int (nJ c), .int (nJ w), .int (nJ q)] = lv at L0 L1 L2 L3 ⊢
  refine E_al rfl L0 ?_
  refine E_ogr (q := 63) rfl hh rfl rfl ?_
  refine E_il rfl L1 ?_
  refine E_il rfl L3 ?_
  refine E_ias rfl hh rfl (by omega) (by decide) ?_
  have h1 : HH (pt h 63 c (nJ q)) := HH_ptn hh b63 (by omega) (by omega) (by omega)
  have F1 : fr_g FL h (pt h 63 c (nJ q)) := fr_ptr (l := 0) (u := 7) rfl (by omega) (by omega) (fr_rf _ _)
  have n1 : gn (pt h 63 c (nJ q)) 63 = fup (gn h 63) c q := gn_fup hh b63 (by omega) (by omega) (by omega)
  have k1 : gi (pt h 63 c (nJ q)) 62 1 = nJ m := by rw [gi_ne (by omega)]; exact g1
  have k2 : gi (pt h 63 c (nJ q)) 62 2 = nJ ms := by rw [gi_ne (by omega)]; exact g2
  have k3 : gi (pt h 63 c (nJ q)) 62 3 = nJ wk := by rw [gi_ne (by omega)]; exact g3
  generalize pt h 63 c (nJ q) = g at h1 F1 n1 k1 k2 k3 ⊢
  refine E_il rfl L3 ?_
  by_cases z : q = 0
  · refine E_ifF rfl (decide_eq_false (fun e => e ((nJ_eq0 (by omega)).mpr z))) ?_
    refine E_al rfl L0 ?_
    refine E_dup rfl rfl ?_
    refine E_ogf (q := (0, 255)) rfl h1 rfl rfl k2 ?_
    refine E_ci 1 rfl (by decide) ?_
    refine E_il rfl L1 ?_
    refine E_bin rfl rfl ?_
    refine E_bin rfl (or_new (by omega) (by omega) (isB_hi hs)) ?_
    refine E_opf (q := (0, 255)) rfl h1 rfl rfl ?_
    refine E_goto rfl ?_
    have e2 : ms + 2 ^ c ≤ 255 := by
      have : 2 ^ (c + 1) = 2 ^ c + 2 ^ c := by rw [Nat.pow_succ]; omega
      have : 2 ^ (c + 1) ≤ 2 ^ 8 := Nat.pow_le_pow_right (by omega) (by omega)
      omega
    have h2 : HH (pt g 62 2 (nJ (ms + 2 ^ c))) := HH_ptn h1 rfl (by omega) (by omega) (by omega)
    refine E_ret rfl ⟨rfl, h2, fr_ptr (l := 1) (u := 3) rfl (by omega) (by omega) F1, ?_, ?_, ?_, ?_⟩
    · unfold ad
      rw [if_pos z, gi_ne (by omega)]; exact k1
    · rw [if_pos z]; exact gi_ptn h1 rfl (by omega) (by omega) (by omega)
    · rw [if_pos z, gi_ne (by omega)]; exact k3
    · rw [← n1]; funext k; exact gn_ne (by omega)
  · obtain ⟨q1, qp, qf⟩ : 1 ≤ q ∧ q ≤ p ∧ isB m (q - 1) = false := by rcases ok with e | e; exact absurd e z; exact e
    refine E_ifT rfl (decide_eq_true (fun e => z ((nJ_eq0 (by omega)).mp e))) ?_
    refine E_al rfl L0 ?_
    refine E_dup rfl rfl ?_
    refine E_ogf (q := (0, 511)) rfl h1 rfl rfl k1 ?_
    refine E_il rfl L3 ?_
    refine E_call rfl (Sp_le (by omega) (sp_placeBit (d := d) q1 q9)) (chkS rfl (by show 2 ≤ 8; decide)) (fun h2 r2 => ?_)
    rintro ⟨e2, f2⟩
    rw [e2, f2]
    refine E_bin rfl (show nJ m ||| nJ (2 ^ (q - 1)) = nJ (m + 2 ^ (q - 1)) from or2_tab ⟨m, hm⟩ ⟨q - 1, by omega⟩ qf) ?_
    have a5 : m + 2 ^ (q - 1) < 512 := isB_add_lt hm (by omega) qf
    have a6 : ((m + 2 ^ (q - 1) : Nat) : Int) ≤ 511 := Int.ofNat_le.mpr (Nat.le_of_lt_succ a5)
    have a7 : (0 : Int) ≤ ((m + 2 ^ (q - 1) : Nat) : Int) := Int.natCast_nonneg _
    refine E_opf (q := (0, 511)) rfl h1 rfl rfl ?_
    have h3 : HH (pt g 62 1 (nJ (m + 2 ^ (q - 1)))) := HH_ptn h1 rfl (by omega) a7 a6
    refine E_al rfl L0 ?_
    refine E_dup rfl rfl ?_
    refine E_ogf (q := (-2147483648, 2147483647)) (v := nJ wk) rfl h3 rfl rfl (by rw [gi_ne (by omega)]; exact k3) ?_
    refine E_il rfl L3 ?_
    refine E_il rfl L2 ?_
    refine E_bin rfl rfl ?_
    refine E_call rfl (Sp_le (by omega) (sp_absD (d := d) (a := q) (b := w) (by omega) (by omega))) (chkS rfl (by show 2 ≤ 8; decide)) (fun h4 r4 => ?_)
    rintro ⟨e4, f4⟩
    rw [e4, f4]
    refine E_bin rfl (nJ_add _ _) ?_
    refine E_opf (q := (-2147483648, 2147483647)) rfl h3 rfl rfl ?_
    have d9 : dst q w ≤ 9 := by unfold dst; omega
    have h5 : HH (pt (pt g 62 1 (nJ (m + 2 ^ (q - 1)))) 62 3 (nJ (wk + dst q w))) := HH_ptn h3 rfl (by omega) (by omega) (by omega)
    refine E_ret rfl ⟨rfl, h5, fr_ptr (l := 1) (u := 3) rfl (by omega) (by omega) (fr_ptr (l := 1) (u := 3) rfl (by omega) (by omega) F1), ?_, ?_, ?_, ?_⟩
    · unfold ad
      rw [if_neg z, gi_ne (by omega)]; exact gi_ptn h1 rfl (by omega) a7 a6
    · rw [if_neg z, gi_ne (by omega), gi_ne (by omega)]; exact k2
    · rw [if_neg z]; exact gi_ptn h3 rfl (by omega) (by omega) (by omega)
    · rw [← n1]; funext k; rw [gn_ne (by omega), gn_ne (by omega)]
noncomputable def FI (l p s : Nat) (W : Nat → Nat) (h0 : pm_H) (c : Nat) (h : pm_H) : Prop := HH h ∧ fr_g FL h0 h ∧ gi h 62 1 = nJ (tk l p s W c) ∧ gi h 62 2 = nJ (mss l p s W c) ∧ gi h 62 3 = nJ (wlk l p s W c) ∧ ∀ i, i < c → gn h 63 i = spt l p s W i
theorem fi_loop {h0 : pm_H} {A l p s n : Nat} {hi : Int} (hA : hs0[A]? = some (.inl (0, 8, [(0, hi)]))) (A2 : A ≠ 62 ∧ A ≠ 63) (hh0 : HH h0) (l3 : l ≤ 3) (p9 : p ≤ 9) (s5 : s < 512) (n8 : n ≤ 8) (V : ∀ c, c < n → 1 ≤ gn h0 A c ∧ gn h0 A c ≤ p) (j : Nat) : ∀ {h : pm_H} {c : Nat} (lv : List (Nat × Value)), c + j = n → FI l p s (gn h0 A) h0 c h → pm_get lv 0 = some (.ref 62) → pm_get lv 1 = some (.ref A) → pm_get lv 2 = some (.int (nJ n)) → pm_get lv 3 = some (.int (nJ s)) → pm_get lv 4 = some (.int (nJ p)) → pm_get lv 5 = some (.int (nJ l)) → pm_get lv 6 = some (.int (nJ c)) → Ends (pm_at tX1_fill) (pm_Rt pm_P (d + 3)) (18, lv, [], h, 0, 0) (fun h' r => r = none ∧ FI l p s (gn h0 A) h0 n h') := by
  induction j with
  | zero =>
    intro h c lv hj I L0 L1 L2 L3 L4 L5 L6
    refine E_il rfl L6 ?_
    refine E_il rfl L2 ?_
    refine E_icT rfl (decide_eq_true ((nJ_le (by omega) (by omega)).mpr (by omega))) ?_
    have e : c = n := by omega
    exact E_ret rfl ⟨rfl, e ▸ I⟩
  | succ j ih =>
    intro h c lv hj I L0 L1 L2 L3 L4 L5 L6
    obtain ⟨hh, F, g1, g2, g3, g4⟩ := I
    refine E_il rfl L6 ?_
    refine E_il rfl L2 ?_
    refine E_icF rfl (decide_eq_false (fun q => absurd ((nJ_le (by omega) (by omega)).mp q) (by omega))) ?_
    refine E_al rfl L0 ?_
    refine E_ogr (q := 63) rfl hh rfl rfl ?_
    refine E_il rfl L6 ?_
    refine E_ci 0 rfl (by decide) ?_
    refine E_ias rfl hh rfl (by omega) (by decide) ?_
    have b63 : bd 63 c = some (0, 9) := bd_u rfl (by omega)
    have h1 : HH (pt h 63 c (nJ 0)) := HH_ptn hh b63 (by omega) (by omega) (by omega)
    have F1 : fr_g FL h0 (pt h 63 c (nJ 0)) := fr_ptr (l := 0) (u := 7) rfl (by omega) (by omega) F
    have n1 : gn (pt h 63 c (nJ 0)) 63 = fup (gn h 63) c 0 := gn_fup hh b63 (by omega) (by omega) (by omega)
    have k1 : gi (pt h 63 c (nJ 0)) 62 1 = nJ (tk l p s (gn h0 A) c) := by rw [gi_ne (by omega)]; exact g1
    have k2 : gi (pt h 63 c (nJ 0)) 62 2 = nJ (mss l p s (gn h0 A) c) := by rw [gi_ne (by omega)]; exact g2
    have k3 : gi (pt h 63 c (nJ 0)) 62 3 = nJ (wlk l p s (gn h0 A) c) := by rw [gi_ne (by omega)]; exact g3
    generalize pt h 63 c (nJ 0) = g at h1 F1 n1 k1 k2 k3 ⊢
    have kA : gi g A c = nJ (gn h0 A c) := by
      rw [fr_gi F1 (rg_no (by show (!(Nat.beq 62 A) && (!(Nat.beq 63 A) && true)) = true; rw [nbeqF (fun q => A2.1 q.symm), nbeqF (fun q => A2.2 q.symm)]; rfl) _)]
      exact gi_gn hh0 (q := (0, hi)) (bd_u hA (by omega)) (Int.le_refl 0)
    have tb := fr0_tab ⟨s, s5⟩ ⟨c, by omega⟩
    have tl : tk l p s (gn h0 A) c < 512 := Nat.lt_of_lt_of_le (tk_lt p9 (fun i hi => V i (by omega))) (Nat.le_trans (Nat.pow_le_pow_right (n := 2) (by omega) p9) (by decide))
    refine E_il rfl L3 ?_
    refine E_il rfl L6 ?_
    refine E_bin rfl rfl ?_
    refine E_ci 1 rfl (by decide) ?_
    refine E_bin rfl rfl ?_
    by_cases b : isB s c = false
    · refine E_ifT rfl (decide_eq_true (tb.mpr b)) ?_
      have b' : ¬ isB s c = true := by rw [b]; decide
      have es : spt l p s (gn h0 A) c = 0 := by unfold spt; rw [if_neg b']
      refine E_inc rfl L6 (nJ_inc _) (fun lv1 K6 kp => ?_)
      refine E_goto rfl ?_
      refine ih lv1 (by omega) ⟨h1, F1, ?_, ?_, ?_, fun i hi => ?_⟩ (kp 0 _ (by decide) rfl L0) (kp 1 _ (by decide) rfl L1) (kp 2 _ (by decide) rfl L2) (kp 3 _ (by decide) rfl L3) (kp 4 _ (by decide) rfl L4) (kp 5 _ (by decide) rfl L5) K6
      · rw [tk_s, es]; exact k1
      · show _ = nJ (if isB s c = true ∧ spt l p s (gn h0 A) c = 0 then _ else _)
        rw [if_neg (fun q => b' q.1)]; exact k2
      · show _ = nJ (_ + (if spt l p s (gn h0 A) c = 0 then 0 else _))
        rw [if_pos es]; exact k3
      · rw [n1]
        by_cases e : i = c
        · rw [e, fup_s, es]
        · rw [fup_n e]; exact g4 i (by omega)
    · have b' : isB s c = true := by cases q : isB s c; exact absurd q b; rfl
      refine E_ifF rfl (decide_eq_false (fun q => b (tb.mp q))) ?_
      have v := V c (by omega)
      have es : spt l p s (gn h0 A) c = sf l p (tk l p s (gn h0 A) c) (gn h0 A c) := by unfold spt; rw [if_pos b']
      refine E_al rfl L0 ?_
      refine E_il rfl L6 ?_
      refine E_al rfl L1 ?_
      refine E_il rfl L6 ?_
      refine E_ial rfl h1 hA (by omega) (by decide) kA ?_
      refine E_il rfl L5 ?_
      refine E_il rfl L4 ?_
      refine E_al rfl L0 ?_
      refine E_ogf (q := (0, 511)) rfl h1 rfl rfl k1 ?_
      refine E_al rfl L1 ?_
      refine E_il rfl L6 ?_
      refine E_ial rfl h1 hA (by omega) (by decide) kA ?_
      refine E_call rfl (sp_spotFor (d := d) l3 tl p9 v.1 v.2) (chkS rfl (by show 3 ≤ 8; decide)) (fun h2 r2 => ?_)
      rintro ⟨e2, f2⟩
      rw [e2, f2, ← es]
      have ok := spt_ok (l := l) (s := s) (W := gn h0 A) v.1 v.2
      have wl := wlk_le (l := l) (s := s) (W := gn h0 A) (p := p) (n := c) (fun i hi => V i (by omega))
      have wl2 : c * p ≤ 8 * 9 := Nat.mul_le_mul (by omega) p9
      refine E_call rfl (Sp_le (by omega) (sp_come (d := d) h1 (by omega) (by omega) p9 tl k1 ok (mss_lt c) k2 (by omega) k3)) (chkO (a := 62) h1 rfl rfl rfl rfl (by show 0 ≤ 8; decide)) (fun h3 r3 => ?_)
      rintro ⟨e3, hh3, f3, m1, m2, m3, m4⟩
      rw [e3]
      refine E_inc rfl L6 (nJ_inc _) (fun lv1 K6 kp => ?_)
      refine E_goto rfl ?_
      refine ih lv1 (by omega) ⟨hh3, fr_trans F1 f3, ?_, ?_, ?_, fun i hi => ?_⟩ (kp 0 _ (by decide) rfl L0) (kp 1 _ (by decide) rfl L1) (kp 2 _ (by decide) rfl L2) (kp 3 _ (by decide) rfl L3) (kp 4 _ (by decide) rfl L4) (kp 5 _ (by decide) rfl L5) K6
      · rw [tk_s]; exact m1
      · rw [m2]
        show _ = nJ (if isB s c = true ∧ spt l p s (gn h0 A) c = 0 then _ else _)
        by_cases z : spt l p s (gn h0 A) c = 0
        · rw [if_pos z, if_pos ⟨b', z⟩]
        · rw [if_neg z, if_neg (fun q => z q.2)]
      · exact m3
      · rw [m4, n1]
        by_cases e : i = c
        · rw [e, fup_s]
        · rw [fup_n e, fup_n e]; exact g4 i (by omega)
theorem sp_fill {A l p s n : Nat} {hi : Int} (hA : hs0[A]? = some (.inl (0, 8, [(0, hi)]))) (A2 : A ≠ 62 ∧ A ≠ 63) (hh : HH h) (l3 : l ≤ 3) (p9 : p ≤ 9) (s5 : s < 512) (n8 : n ≤ 8) (V : ∀ c, c < n → 1 ≤ gn h A c ∧ gn h A c ≤ p) : Sp (d + 4) 20 h [.ref 62, .ref A, .int (nJ n), .int (nJ s), .int (nJ p), .int (nJ l)] (fun h' r => r = none ∧ HH h' ∧ fr_g FL h h' ∧ LTP l p s (gn h A) n h') := by
  refine Sp_mono (Q := fun h' r => r = none ∧ FI l p s (gn h A) h n h') ?_ ?_
  · rintro h' r ⟨rfl, hh', F, g1, g2, g3, g4⟩
    exact ⟨rfl, hh', F, g1, g2, g3, fun i hi => by rw [gi_gn hh' (q := (0, 9)) (bd_u rfl (by omega)) (by decide), g4 i hi]⟩
  refine Sp_of aiX1_fill rfl rfl rfl ?_
  have L0 : pm_get (lv_args 0 [.ref 62, .ref A, .int (nJ n), .int (nJ s), .int (nJ p), .int (nJ l)]) 0 = some (.ref 62) := rfl
  have L1 : pm_get (lv_args 0 [.ref 62, .ref A, .int (nJ n), .int (nJ s), .int (nJ p), .int (nJ l)]) 1 = some (.ref A) := rfl
  have L2 : pm_get (lv_args 0 [.ref 62, .ref A, .int (nJ n), .int (nJ s), .int (nJ p), .int (nJ l)]) 2 = some (.int (nJ n)) := rfl
  have L3 : pm_get (lv_args 0 [.ref 62, .ref A, .int (nJ n), .int (nJ s), .int (nJ p), .int (nJ l)]) 3 = some (.int (nJ s)) := rfl
  have L4 : pm_get (lv_args 0 [.ref 62, .ref A, .int (nJ n), .int (nJ s), .int (nJ p), .int (nJ l)]) 4 = some (.int (nJ p)) := rfl
  have L5 : pm_get (lv_args 0 [.ref 62, .ref A, .int (nJ n), .int (nJ s), .int (nJ p), .int (nJ l)]) 5 = some (.int (nJ l)) := rfl
  generalize lv_args 0 [.ref 62, .ref A, .int (nJ n), .int (nJ s), .int (nJ p), .int (nJ l)] = lv at L0 L1 L2 L3 L4 L5 ⊢
  refine E_al rfl L0 ?_
  refine E_ci 0 rfl (by decide) ?_
  refine E_opf (q := (0, 511)) rfl hh rfl rfl ?_
  have h1 : HH (pt h 62 1 (nJ 0)) := HH_ptn hh rfl (by omega) (by omega) (by omega)
  refine E_al rfl L0 ?_
  refine E_ci 0 rfl (by decide) ?_
  refine E_opf (q := (0, 255)) rfl h1 rfl rfl ?_
  have h2 : HH (pt (pt h 62 1 (nJ 0)) 62 2 (nJ 0)) := HH_ptn h1 rfl (by omega) (by omega) (by omega)
  refine E_al rfl L0 ?_
  refine E_ci 0 rfl (by decide) ?_
  refine E_opf (q := (-2147483648, 2147483647)) rfl h2 rfl rfl ?_
  have h3 : HH (pt (pt (pt h 62 1 (nJ 0)) 62 2 (nJ 0)) 62 3 (nJ 0)) := HH_ptn h2 rfl (by omega) (by omega) (by omega)
  refine E_ci 0 rfl (by decide) ?_
  refine E_is rfl (fun lv1 K6 kp => ?_)
  refine fi_loop hA A2 hh l3 p9 s5 n8 V n (c := 0) lv1 (by omega) ⟨h3, fr_ptr (l := 1) (u := 3) rfl (by omega) (by omega) (fr_ptr (l := 1) (u := 3) rfl (by omega) (by omega) (fr_ptr (l := 1) (u := 3) rfl (by omega) (by omega) (fr_rf _ _))), ?_, ?_, ?_, fun i hi => absurd hi (Nat.not_lt_zero i)⟩ (kp 0 _ (by decide) rfl L0) (kp 1 _ (by decide) rfl L1) (kp 2 _ (by decide) rfl L2) (kp 3 _ (by decide) rfl L3) (kp 4 _ (by decide) rfl L4) (kp 5 _ (by decide) rfl L5) K6
  · rw [gi_ne (by omega), gi_ne (by omega)]; exact gi_ptn hh rfl (by omega) (by omega) (by omega)
  · rw [gi_ne (by omega)]; exact gi_ptn h1 rfl (by omega) (by omega) (by omega)
  · exact gi_ptn h2 rfl (by omega) (by omega) (by omega)
theorem sp_everyCar (hh : HH h) : Sp (d + 1) 103 h [.ref 0] (fun h' r => h' = h ∧ r = some (.int (nJ (2 ^ gn h 15 4 - 1)))) := by
  obtain ⟨-, -, a3, a4, -⟩ := g15 hh
  refine Sp_of aiX8_everyCar rfl rfl rfl ?_
  have L0 : pm_get (lv_args 0 [.ref 0]) 0 = some (.ref 0) := rfl
  generalize lv_args 0 [.ref 0] = lv at L0 ⊢
  refine E_ci 1 rfl (by decide) ?_
  refine E_al rfl L0 ?_
  refine E_ogr (q := 15) rfl hh rfl rfl ?_
  refine E_ogf (q := (0, 8)) rfl hh rfl rfl a3 ?_
  refine E_bin rfl rfl ?_
  refine E_ci 1 rfl (by decide) ?_
  refine E_bin rfl (cm_bits a4) ?_
  exact E_rti rfl ⟨rfl, rfl⟩
theorem all_lt {c : Nat} (h : c ≤ 8) : 2 ^ c - 1 < 512 := by
  have : 2 ^ c ≤ 2 ^ 8 := Nat.pow_le_pow_right (by omega) h
  omega
theorem sp_parkAll (hh : HH h) (V : ∀ c, c < gn h 15 4 → 1 ≤ gn h 17 c ∧ gn h 17 c ≤ gn h 15 0) : Sp (d + 5) 154 h [.ref 0] (fun h' r => r = none ∧ HH h' ∧ fr_g FL h h' ∧ LTP (gn h 15 1) (gn h 15 0) (2 ^ gn h 15 4 - 1) (gn h 17) (gn h 15 4) h') := by
  obtain ⟨a1, a2, a3, a4, -⟩ := g15 hh
  have l1 : gi h 15 1 = nJ (gn h 15 1) := gi_gn hh rfl (by decide)
  have l3 : gn h 15 1 ≤ 3 := gn_hi hh rfl (by decide)
  refine Sp_of aiX8_parkAll rfl rfl rfl ?_
  have L0 : pm_get (lv_args 0 [.ref 0]) 0 = some (.ref 0) := rfl
  generalize lv_args 0 [.ref 0] = lv at L0 ⊢
  refine E_al rfl L0 ?_
  refine E_ogr (q := 62) rfl hh rfl rfl ?_
  refine E_al rfl L0 ?_
  refine E_ogr (q := 15) rfl hh rfl rfl ?_
  refine E_ogr (q := 17) rfl hh rfl rfl ?_
  refine E_al rfl L0 ?_
  refine E_ogr (q := 15) rfl hh rfl rfl ?_
  refine E_ogf (q := (0, 8)) rfl hh rfl rfl a3 ?_
  refine E_al rfl L0 ?_
  refine E_call rfl (Sp_le (by omega) (sp_everyCar (d := d) hh)) (chkO (a := 0) hh rfl rfl rfl rfl (by show 3 ≤ 8; decide)) (fun h1 r1 => ?_)
  rintro ⟨e1, f1⟩
  rw [e1, f1]
  refine E_al rfl L0 ?_
  refine E_ogr (q := 15) rfl hh rfl rfl ?_
  refine E_ogf (q := (0, 8)) rfl hh rfl rfl a1 ?_
  refine E_al rfl L0 ?_
  refine E_ogr (q := 15) rfl hh rfl rfl ?_
  refine E_ogf (q := (0, 3)) rfl hh rfl rfl l1 ?_
  refine E_call rfl (sp_fill (d := d) (A := 17) (hi := 8) rfl (by decide) hh l3 (by omega) (all_lt a4) a4 V) (chkO (a := 62) hh rfl rfl rfl rfl (by show 0 ≤ 8; decide)) (fun h2 r2 => ?_)
  rintro ⟨e2, hh2, f2, t2⟩
  rw [e2]
  exact E_ret rfl ⟨rfl, hh2, f2, t2⟩
end FILL
end
section
/-! the reference parks (wants u65, u63) -/
noncomputable def pO (q : Nat) : Int32 := if q = 0 then -1 else nJ q
/-- who holds a place, counted from 1; 0: none -/
noncomputable def hd (l p s : Nat) (W : Nat → Nat) : Nat → Nat → Nat
  | 0, _ => 0
  | n + 1, q => if spt l p s W n = q ∧ q ≠ 0 then n + 1 else hd l p s W n q
theorem hd_le {l p s : Nat} {W : Nat → Nat} {q : Nat} : ∀ (n : Nat), hd l p s W n q ≤ n
  | 0 => Nat.le_refl 0
  | n + 1 => by
    have := hd_le (l := l) (p := p) (s := s) (W := W) (q := q) n
    show (if spt l p s W n = q ∧ q ≠ 0 then n + 1 else hd l p s W n q) ≤ n + 1
    split <;> omega
theorem hd_z {l p s : Nat} {W : Nat → Nat} : ∀ (n : Nat), hd l p s W n 0 = 0
  | 0 => rfl
  | n + 1 => by
    show (if spt l p s W n = 0 ∧ (0 : Nat) ≠ 0 then n + 1 else hd l p s W n 0) = 0
    rw [if_neg (fun q => q.2 rfl)]
    exact hd_z n
theorem hd_free {l p s : Nat} {W : Nat → Nat} (p9 : p ≤ 9) : ∀ {n : Nat}, (∀ c, c < n → 1 ≤ W c ∧ W c ≤ p) → ∀ q, 1 ≤ q → q ≤ 9 → (hd l p s W n q = 0 ↔ isB (tk l p s W n) (q - 1) = false)
  | 0, _, q, _, _ => ⟨fun _ => isB_zero _, fun _ => rfl⟩
  | n + 1, V, q, q1, q9 => by
    have ih := hd_free (l := l) (s := s) p9 (n := n) (fun c hc => V c (by omega)) q q1 q9
    have tl : tk l p s W n < 512 := Nat.lt_of_lt_of_le (tk_lt p9 (fun i hi => V i (by omega))) (Nat.le_trans (Nat.pow_le_pow_right (n := 2) (by omega) p9) (by decide))
    have ok := spt_ok (l := l) (s := s) (W := W) (V n (by omega)).1 (V n (by omega)).2
    show (if spt l p s W n = q ∧ q ≠ 0 then n + 1 else hd l p s W n q) = 0 ↔ isB (tk l p s W (n + 1)) (q - 1) = false
    rw [tk_s]
    unfold ad
    rcases ok with z | ⟨a1, a2, a3⟩
    · rw [if_neg (by omega), if_pos z]; exact ih
    · rw [if_neg (show ¬ spt l p s W n = 0 by omega), isB_add tl (by omega) (by omega) a3]
      by_cases e : spt l p s W n = q
      · rw [if_pos ⟨e, by omega⟩, e, show (q - 1 == q - 1) = true from beq_self_eq_true _]
        constructor
        · intro k; omega
        · intro k; cases k
      · rw [if_neg (fun k => e k.1), show (q - 1 == spt l p s W n - 1) = false from beq_eq_false_iff_ne.mpr (by omega), Bool.false_or]
        exact ih
noncomputable def HLm (p m : Nat) (h : pm_H) : Prop := ∀ q, 1 ≤ q → q ≤ p → (gi h 90 q = -1 ↔ isB m (q - 1) = false)
section PK9
variable {h : pm_H} {d : Nat}
theorem sp_isFree9 {p m : Nat} {x : Int32} (hh : HH h) (p9 : p ≤ 9) (H : HLm p m h) : Sp (d + 1) 268 h [.ref 77, .int x, .int (nJ p)] (fun h' r => h' = h ∧ r = some (.int (zb (1 ≤ x.toInt ∧ x.toInt ≤ (p : Int) ∧ isB m (x.toInt.toNat - 1) = false)))) := by
  refine Sp_of aiX9_isFree rfl rfl rfl ?_
  have L0 : pm_get (lv_args 0 [.ref 77, .int x, .int (nJ p)]) 0 = some (.ref 77) := rfl
  have L1 : pm_get (lv_args 0 [.ref 77, .int x, .int (nJ p)]) 1 = some (.int x) := rfl
  have L2 : pm_get (lv_args 0 [.ref 77, .int x, .int (nJ p)]) 2 = some (.int (nJ p)) := rfl
  generalize lv_args 0 [.ref 77, .int x, .int (nJ p)] = lv at L0 L1 L2 ⊢
  have no : ¬ (1 ≤ x.toInt ∧ x.toInt ≤ (p : Int) ∧ isB m (x.toInt.toNat - 1) = false) → Ends (pm_at tX9_isFree) (pm_Rt pm_P d) (24, lv, [], h, 0, 0) (fun h' r => h' = h ∧ r = some (.int (zb (1 ≤ x.toInt ∧ x.toInt ≤ (p : Int) ∧ isB m (x.toInt.toNat - 1) = false)))) := by
    intro q
    refine E_ci 0 rfl (by decide) ?_
    exact E_rtz rfl (.inl rfl) ⟨rfl, by rw [zb_F q]⟩
  have z1 : (1 : Int32).toInt = 1 := rfl
  have zp := nJ_toInt (n := p) (by omega)
  refine E_il rfl L1 ?_
  refine E_c rfl ?_
  by_cases b1 : 1 ≤ x.toInt
  · refine E_icF rfl (decide_eq_false (fun q => by have := Int32.lt_iff_toInt_lt.mp q; omega)) ?_
    refine E_il rfl L1 ?_
    refine E_il rfl L2 ?_
    by_cases b2 : x.toInt ≤ (p : Int)
    · refine E_icF rfl (decide_eq_false (fun q => by have := Int32.lt_iff_toInt_lt.mp q; omega)) ?_
      obtain ⟨c, hc, rfl⟩ : ∃ c, c ≤ 9 ∧ x = nJ c := ⟨x.toInt.toNat, by omega, nJ_of (by omega)⟩
      have xc := nJ_toInt (n := c) (by omega)
      have hq := H c (by omega) (by omega)
      refine E_al rfl L0 ?_
      refine E_gr rfl hh (q := 90) rfl ?_
      refine E_il rfl L1 ?_
      refine E_ial rfl hh rfl (by omega) (by decide) rfl ?_
      refine E_c rfl ?_
      have ec : (nJ c).toInt.toNat = c := by omega
      by_cases b3 : isB m (c - 1) = false
      · refine E_icF rfl (decide_eq_false (fun q => q (hq.mpr b3))) ?_
        refine E_ci 1 rfl (by decide) ?_
        refine E_goto rfl ?_
        exact E_rtz rfl (.inr rfl) ⟨rfl, by rw [zb_T ⟨b1, b2, by rw [ec]; exact b3⟩]⟩
      · refine E_icT rfl (decide_eq_true (fun q => b3 (hq.mp q))) ?_
        exact no (fun q => b3 (by have := q.2.2; rw [ec] at this; exact this))
    · refine E_icT rfl (decide_eq_true (Int32.lt_iff_toInt_lt.mpr (by omega))) ?_
      exact no (fun q => b2 q.2.1)
  · refine E_icT rfl (decide_eq_true (Int32.lt_iff_toInt_lt.mpr (by omega))) ?_
    exact no (fun q => b1 q.1)
/-- the same of a number -/
theorem sp_isFree9n {p m q : Nat} (hh : HH h) (p9 : p ≤ 9) (q10 : q ≤ 100) (H : HLm p m h) : Sp (d + 1) 268 h [.ref 77, .int (nJ q), .int (nJ p)] (fun h' r => h' = h ∧ r = some (.int (zb (1 ≤ q ∧ q ≤ p ∧ isB m (q - 1) = false)))) := by
  refine Sp_mono ?_ (sp_isFree9 (x := nJ q) hh p9 H)
  rintro h' r ⟨rfl, rfl⟩
  have e := nJ_toInt (n := q) (by omega)
  refine ⟨rfl, ?_⟩
  by_cases b : 1 ≤ q ∧ q ≤ p ∧ isB m (q - 1) = false
  · rw [zb_T b, zb_T]
    rw [e]
    exact ⟨by omega, by omega, by rw [show ((q : Int).toNat) = q by omega]; exact b.2.2⟩
  · rw [zb_F b, zb_F]
    rw [e]
    rintro ⟨x1, x2, x3⟩
    rw [show ((q : Int).toNat) = q by omega] at x3
    exact b ⟨by omega, by omega, x3⟩
theorem ab_loop {p m : Nat} (hh : HH h) (p9 : p ≤ 9) (H : HLm p m h) (j : Nat) : ∀ {q : Nat} (lv : List (Nat × Value)), 1 ≤ q → q ≤ 10 → p < q + j → pm_get lv 0 = some (.ref 77) → pm_get lv 2 = some (.int (nJ p)) → pm_get lv 3 = some (.int (nJ q)) → Ends (pm_at tX9_above0) (pm_Rt pm_P (d + 1)) (4, lv, [], h, 0, 0) (fun h' r => h' = h ∧ r = some (.int (pO (ff m p j q)))) := by
  induction j with
  | zero =>
    intro q lv q1 q10 hj L0 L2 L3
    refine E_il rfl L3 ?_
    refine E_il rfl L2 ?_
    refine E_icT rfl (decide_eq_true ((nJ_lt (by omega) (by omega)).mpr (by omega))) ?_
    refine E_c rfl ?_
    exact E_rti rfl ⟨rfl, rfl⟩
  | succ j ih =>
    intro q lv q1 q10 hj L0 L2 L3
    unfold ff
    refine E_il rfl L3 ?_
    refine E_il rfl L2 ?_
    by_cases b : q ≤ p
    · refine E_icF rfl (decide_eq_false (fun z => absurd ((nJ_lt (by omega) (by omega)).mp z) (by omega))) ?_
      rw [if_pos b]
      refine E_al rfl L0 ?_
      refine E_il rfl L3 ?_
      refine E_il rfl L2 ?_
      refine E_call rfl (sp_isFree9n (d := d) hh p9 (by omega) H) (chk77 hh rfl rfl (by show 0 ≤ 8; decide)) (fun h1 r1 => ?_)
      rintro ⟨e1, f1⟩
      rw [e1, f1]
      by_cases c : isB m (q - 1) = false
      · refine E_ifF rfl (by rw [zb_T ⟨q1, b, c⟩]; rfl) ?_
        rw [if_pos c]
        refine E_il rfl L3 ?_
        exact E_rti rfl ⟨rfl, by unfold pO; rw [if_neg (by omega)]⟩
      · refine E_ifT rfl (by rw [zb_F (fun z => c z.2.2)]; rfl) ?_
        rw [if_neg c]
        refine E_inc rfl L3 (nJ_inc _) (fun lv1 K3 kp => ?_)
        refine E_goto rfl ?_
        exact ih lv1 (by omega) (by omega) (by omega) (kp 0 _ (by decide) rfl L0) (kp 2 _ (by decide) rfl L2) K3
    · refine E_icT rfl (decide_eq_true ((nJ_lt (by omega) (by omega)).mpr (by omega))) ?_
      rw [if_neg b]
      refine E_c rfl ?_
      exact E_rti rfl ⟨rfl, rfl⟩
theorem sp_above0 {p m a : Nat} (hh : HH h) (p9 : p ≤ 9) (a9 : a ≤ 9) (H : HLm p m h) : Sp (d + 2) 205 h [.ref 77, .int (nJ a), .int (nJ p)] (fun h' r => h' = h ∧ r = some (.int (pO (ff m p 10 (a + 1))))) := by
  refine Sp_of aiX9_above0 rfl rfl rfl ?_
  have L0 : pm_get (lv_args 0 [.ref 77, .int (nJ a), .int (nJ p)]) 0 = some (.ref 77) := rfl
  have L1 : pm_get (lv_args 0 [.ref 77, .int (nJ a), .int (nJ p)]) 1 = some (.int (nJ a)) := rfl
  have L2 : pm_get (lv_args 0 [.ref 77, .int (nJ a), .int (nJ p)]) 2 = some (.int (nJ p)) := rfl
  generalize lv_args 0 [.ref 77, .int (nJ a), .int (nJ p)] = lv at L0 L1 L2 ⊢
  refine E_il rfl L1 ?_
  refine E_ci 1 rfl (by decide) ?_
  refine E_bin rfl (nJ_add _ _) ?_
  refine E_is rfl (fun lv1 K3 kp => ?_)
  exact ab_loop hh p9 H 10 lv1 (by omega) (by omega) (by omega) (kp 0 _ (by decide) rfl L0) (kp 2 _ (by decide) rfl L2) K3
theorem pO_n1 {q : Nat} (h : q < 1000) : pO q = -1 ↔ q = 0 := by
  unfold pO
  by_cases z : q = 0
  · rw [if_pos z]; exact ⟨fun _ => z, fun _ => rfl⟩
  · rw [if_neg z]
    constructor
    · intro e
      have := congrArg Int32.toInt e
      rw [nJ_toInt (by omega)] at this
      have z1 : (-1 : Int32).toInt = -1 := rfl
      omega
    · intro e; exact absurd e z
theorem nf9_loop {p m w : Nat} (hh : HH h) (p9 : p ≤ 9) (w1 : 1 ≤ w) (wp : w ≤ p) (H : HLm p m h) (j : Nat) : ∀ {k : Nat} (lv : List (Nat × Value)), 1 ≤ k → k ≤ 10 → p ≤ k + j → pm_get lv 0 = some (.ref 77) → pm_get lv 1 = some (.int (nJ w)) → pm_get lv 3 = some (.int (nJ p)) → pm_get lv 4 = some (.int (nJ k)) → Ends (pm_at tX9_findsBy) (pm_Rt pm_P (d + 2)) (44, lv, [], h, 0, 0) (fun h' r => h' = h ∧ r = some (.int (pO (nf m p w j k)))) := by
  induction j with
  | zero =>
    intro k lv k1 k10 hj L0 L1 L3 L4
    refine E_il rfl L4 ?_
    refine E_il rfl L3 ?_
    refine E_icT rfl (decide_eq_true ((nJ_le (by omega) (by omega)).mpr (by omega))) ?_
    refine E_c rfl ?_
    exact E_rti rfl ⟨rfl, rfl⟩
  | succ j ih =>
    intro k lv k1 k10 hj L0 L1 L3 L4
    unfold nf
    refine E_il rfl L4 ?_
    refine E_il rfl L3 ?_
    by_cases b : k < p
    · refine E_icF rfl (decide_eq_false (fun z => absurd ((nJ_le (by omega) (by omega)).mp z) (by omega))) ?_
      rw [if_pos b]
      refine E_al rfl L0 ?_
      refine E_il rfl L1 ?_
      refine E_il rfl L4 ?_
      refine E_bin rfl (nJ_add _ _) ?_
      refine E_il rfl L3 ?_
      refine E_call rfl (Sp_le (by omega) (sp_isFree9n (d := d) (q := w + k) hh p9 (by omega) H)) (chk77 hh rfl rfl (by show 0 ≤ 8; decide)) (fun h1 r1 => ?_)
      rintro ⟨e1, f1⟩
      rw [e1, f1]
      by_cases c : w + k ≤ p ∧ isB m (w + k - 1) = false
      · refine E_ifF rfl (by rw [zb_T ⟨by omega, c.1, c.2⟩]; rfl) ?_
        rw [if_pos c]
        refine E_il rfl L1 ?_
        refine E_il rfl L4 ?_
        refine E_bin rfl (nJ_add _ _) ?_
        exact E_rti rfl ⟨rfl, by unfold pO; rw [if_neg (by omega)]⟩
      · refine E_ifT rfl (by rw [zb_F (fun z => c z.2)]; rfl) ?_
        rw [if_neg c]
        have ti : (nJ w - nJ k).toInt = (w : Int) - (k : Int) := by
          rw [Int32.toInt_sub, nJ_toInt (by omega), nJ_toInt (by omega)]
          exact Int.bmod_eq_of_le (by omega) (by omega)
        refine E_al rfl L0 ?_
        refine E_il rfl L1 ?_
        refine E_il rfl L4 ?_
        refine E_bin rfl rfl ?_
        refine E_il rfl L3 ?_
        refine E_call rfl (Sp_le (by omega) (sp_isFree9 (d := d) (x := nJ w - nJ k) hh p9 H)) (chk77 hh rfl rfl (by show 0 ≤ 8; decide)) (fun h2 r2 => ?_)
        rintro ⟨e2, f2⟩
        rw [e2, f2]
        have cn : (1 ≤ (nJ w - nJ k).toInt ∧ (nJ w - nJ k).toInt ≤ (p : Int) ∧ isB m ((nJ w - nJ k).toInt.toNat - 1) = false) ↔ (1 + k ≤ w ∧ isB m (w - k - 1) = false) := by
          rw [ti, show ((w : Int) - (k : Int)).toNat = w - k by omega]
          constructor
          · rintro ⟨x1, x2, x3⟩; exact ⟨by omega, x3⟩
          · rintro ⟨x1, x3⟩; exact ⟨by omega, by omega, x3⟩
        by_cases e : 1 + k ≤ w ∧ isB m (w - k - 1) = false
        · refine E_ifF rfl (by rw [zb_T (cn.mpr e)]; rfl) ?_
          rw [if_pos e]
          refine E_il rfl L1 ?_
          refine E_il rfl L4 ?_
          refine E_bin rfl (nJ_sub (by omega)) ?_
          exact E_rti rfl ⟨rfl, by unfold pO; rw [if_neg (by omega)]⟩
        · refine E_ifT rfl (by rw [zb_F (fun z => e (cn.mp z))]; rfl) ?_
          rw [if_neg e]
          refine E_inc rfl L4 (nJ_inc _) (fun lv1 K4 kp => ?_)
          refine E_goto rfl ?_
          exact ih lv1 (by omega) (by omega) (by omega) (kp 0 _ (by decide) rfl L0) (kp 1 _ (by decide) rfl L1) (kp 3 _ (by decide) rfl L3) K4
    · refine E_icT rfl (decide_eq_true ((nJ_le (by omega) (by omega)).mpr (by omega))) ?_
      rw [if_neg b]
      refine E_c rfl ?_
      exact E_rti rfl ⟨rfl, rfl⟩
theorem sp_findsBy {l m w : Nat} (hh : HH h) (hl : l ≤ 3) (w1 : 1 ≤ w) (wp : w ≤ gn h 84 0) (H : HLm (gn h 84 0) m h) : Sp (d + 3) 249 h [.ref 77, .int (nJ w), .int (nJ l)] (fun h' r => h' = h ∧ r = some (.int (pO (sf l (gn h 84 0) m w)))) := by
  have p8 : gn h 84 0 ≤ 8 := gn_hi hh rfl (by decide)
  refine Sp_of aiX9_findsBy rfl rfl rfl ?_
  have L0 : pm_get (lv_args 0 [.ref 77, .int (nJ w), .int (nJ l)]) 0 = some (.ref 77) := rfl
  have L1 : pm_get (lv_args 0 [.ref 77, .int (nJ w), .int (nJ l)]) 1 = some (.int (nJ w)) := rfl
  have L2 : pm_get (lv_args 0 [.ref 77, .int (nJ w), .int (nJ l)]) 2 = some (.int (nJ l)) := rfl
  generalize lv_args 0 [.ref 77, .int (nJ w), .int (nJ l)] = lv0 at L0 L1 L2 ⊢
  refine E_al rfl L0 ?_
  refine E_call rfl (Sp_le (by omega) (sp_places (d := d) hh)) (chk77 hh rfl rfl (by show 0 ≤ 8; decide)) (fun h1 r1 => ?_)
  rintro ⟨e1, f1, -⟩
  rw [e1, f1]
  generalize gn h 84 0 = p at wp H p8 ⊢
  refine E_is rfl (fun lv L3 kp => ?_)
  replace L0 := kp 0 _ (by decide) rfl L0
  replace L1 := kp 1 _ (by decide) rfl L1
  replace L2 := kp 2 _ (by decide) rfl L2
  unfold sf
  refine E_al rfl L0 ?_
  refine E_il rfl L1 ?_
  refine E_il rfl L3 ?_
  refine E_call rfl (Sp_le (by omega) (sp_isFree9n (d := d) (q := w) hh (by omega) (by omega) H)) (chk77 hh rfl rfl (by show 0 ≤ 8; decide)) (fun h2 r2 => ?_)
  rintro ⟨e2, f2⟩
  rw [e2, f2]
  by_cases a : isB m (w - 1) = false
  · refine E_ifF rfl (by rw [zb_T ⟨w1, wp, a⟩]; rfl) ?_
    rw [if_pos a]
    refine E_il rfl L1 ?_
    exact E_rti rfl ⟨rfl, by unfold pO; rw [if_neg (by omega)]⟩
  refine E_ifT rfl (by rw [zb_F (fun z => a z.2.2)]; rfl) ?_
  rw [if_neg a]
  have at36 : ¬ (l = 1 ∧ 2 ≤ w ∧ isB m (w - 2) = false) → Ends (pm_at tX9_findsBy) (pm_Rt pm_P (d + 2)) (36, lv, [], h, 0, 0) (fun h' r => h' = h ∧ r = some (.int (pO (if l = 1 ∧ 2 ≤ w ∧ isB m (w - 2) = false then w - 1 else if l = 2 then nf m p w 10 1 else if ff m p 10 (w + 1) = 0 ∧ l = 3 then ff m p 10 1 else ff m p 10 (w + 1))))) := by
    intro b
    rw [if_neg b]
    refine E_il rfl L2 ?_
    refine E_ci 2 rfl (by decide) ?_
    by_cases c : l = 2
    · refine E_icF rfl (decide_eq_false (fun z => z ((nJ_eq (by omega) (by omega)).mpr c))) ?_
      rw [if_pos c]
      refine E_ci 1 rfl (by decide) ?_
      refine E_is rfl (fun lv1 K4 kp => ?_)
      exact nf9_loop hh (by omega) w1 wp H 10 lv1 (by omega) (by omega) (by omega) (kp 0 _ (by decide) rfl L0) (kp 1 _ (by decide) rfl L1) (kp 3 _ (by decide) rfl L3) K4
    · refine E_icT rfl (decide_eq_true (fun z => c ((nJ_eq (by omega) (by omega)).mp z))) ?_
      rw [if_neg c]
      refine E_al rfl L0 ?_
      refine E_il rfl L1 ?_
      refine E_il rfl L3 ?_
      refine E_call rfl (sp_above0 (d := d) hh (by omega) (by omega) H) (chk77 hh rfl rfl (by show 0 ≤ 8; decide)) (fun h3 r3 => ?_)
      rintro ⟨e3, f3⟩
      rw [e3, f3]
      have fo := ff_ok (m := m) (p := p) (j := 10) (q := w + 1) (by omega)
      have f9 : ff m p 10 (w + 1) < 1000 := by rcases fo with q | ⟨_, q, _⟩ <;> omega
      refine E_is rfl (fun lv1 K4 kp => ?_)
      refine E_il rfl K4 ?_
      refine E_c rfl ?_
      by_cases z : ff m p 10 (w + 1) = 0
      · refine E_icF rfl (decide_eq_false (fun q => q ((pO_n1 f9).mpr z))) ?_
        refine E_il rfl (kp 2 _ (by decide) rfl L2) ?_
        refine E_ci 3 rfl (by decide) ?_
        by_cases l3 : l = 3
        · refine E_icF rfl (decide_eq_false (fun q => q ((nJ_eq (by omega) (by omega)).mpr l3))) ?_
          rw [if_pos ⟨z, l3⟩]
          refine E_al rfl (kp 0 _ (by decide) rfl L0) ?_
          refine E_ci 0 rfl (by decide) ?_
          refine E_il rfl (kp 3 _ (by decide) rfl L3) ?_
          refine E_call rfl (sp_above0 (d := d) (a := 0) hh (by omega) (by omega) H) (chk77 hh rfl rfl (by show 0 ≤ 8; decide)) (fun h4 r4 => ?_)
          rintro ⟨e4, f4⟩
          rw [e4, f4]
          refine E_goto rfl ?_
          exact E_rti rfl ⟨rfl, rfl⟩
        · refine E_icT rfl (decide_eq_true (fun q => l3 ((nJ_eq (by omega) (by omega)).mp q))) ?_
          rw [if_neg (fun q => l3 q.2)]
          refine E_il rfl K4 ?_
          exact E_rti rfl ⟨rfl, rfl⟩
      · refine E_icT rfl (decide_eq_true (fun q => z ((pO_n1 f9).mp q))) ?_
        rw [if_neg (fun q => z q.1)]
        refine E_il rfl K4 ?_
        exact E_rti rfl ⟨rfl, rfl⟩
  refine E_il rfl L2 ?_
  refine E_ci 1 rfl (by decide) ?_
  by_cases b1 : l = 1
  · refine E_icF rfl (decide_eq_false (fun z => z ((nJ_eq (by omega) (by omega)).mpr b1))) ?_
    refine E_al rfl L0 ?_
    refine E_il rfl L1 ?_
    refine E_ci 1 rfl (by decide) ?_
    refine E_bin rfl (nJ_sub (by omega)) ?_
    refine E_il rfl L3 ?_
    refine E_call rfl (Sp_le (by omega) (sp_isFree9n (d := d) (q := w - 1) hh (by omega) (by omega) H)) (chk77 hh rfl rfl (by show 0 ≤ 8; decide)) (fun h3 r3 => ?_)
    rintro ⟨e3, f3⟩
    rw [e3, f3, show w - 1 - 1 = w - 2 by omega]
    by_cases b3 : 2 ≤ w ∧ isB m (w - 2) = false
    · refine E_ifF rfl (by rw [zb_T ⟨by omega, by omega, b3.2⟩]; rfl) ?_
      rw [if_pos ⟨b1, b3⟩]
      refine E_il rfl L1 ?_
      refine E_ci 1 rfl (by decide) ?_
      refine E_bin rfl (nJ_sub (by omega)) ?_
      exact E_rti rfl ⟨rfl, by unfold pO; rw [if_neg (by omega)]⟩
    · refine E_ifT rfl (by rw [zb_F (fun z => b3 ⟨by omega, z.2.2⟩)]; rfl) ?_
      exact at36 (fun q => b3 q.2)
  · refine E_icT rfl (decide_eq_true (fun z => b1 ((nJ_eq (by omega) (by omega)).mp z))) ?_
    exact at36 (fun q => b1 q.1)
end PK9
end
section
/-! the reference parks and lays, exactly; the street's numbers as both see them (wants u66, u67) -/
noncomputable def PKF : List Rng := [(77, 27, 27), (90, 0, 9), (91, 0, 7)]
noncomputable def LNF : List Rng := [(77, 22, 23), (77, 27, 27), (89, 0, 7), (90, 0, 9), (91, 0, 7)]
noncomputable def PKD (l p s : Nat) (W : Nat → Nat) (n : Nat) (h : pm_H) : Prop := gi h 77 27 = nJ (mss l p s W n) ∧ (∀ q, q ≤ 9 → gi h 90 q = pI (hd l p s W n q)) ∧ ∀ i, i < n → gi h 91 i = pO (spt l p s W i)
theorem hd_W {l p s n : Nat} {W W' : Nat → Nat} (e : ∀ c, c < n → W c = W' c) (q : Nat) : hd l p s W n q = hd l p s W' n q := by
  induction n with
  | zero => rfl
  | succ n ih =>
    have i := ih (fun c hc => e c (by omega))
    show (if spt l p s W n = q ∧ q ≠ 0 then n + 1 else hd l p s W n q) = (if spt l p s W' n = q ∧ q ≠ 0 then n + 1 else hd l p s W' n q)
    rw [i, spt_W (fun c hc => e c (by omega))]
theorem PKD_W {l p s n : Nat} {W W' : Nat → Nat} {h : pm_H} (e : ∀ c, c < n → W c = W' c) (k : PKD l p s W n h) : PKD l p s W' n h := by
  obtain ⟨k1, k2, k3⟩ := k
  refine ⟨by rw [k1, mss_W e], fun q hq => by rw [k2 q hq, hd_W e], fun i hi => ?_⟩
  rw [k3 i hi, spt_W (fun c hc => e c (by omega))]
theorem pI_n1 {n : Nat} (hn : n < 2147483648) : pI n = -1 ↔ n = 0 := by
  cases n with
  | zero => exact ⟨fun _ => rfl, fun _ => rfl⟩
  | succ k =>
    constructor
    · intro e
      have := congrArg Int32.toInt e
      rw [show pI (k + 1) = nJ k from rfl, nJ_toInt (by omega)] at this
      have z1 : (-1 : Int32).toInt = -1 := rfl
      omega
    · intro e; cases e
theorem pO_lo {q : Nat} (h : q ≤ 9) : (-1 : Int) ≤ (pO q).toInt ∧ (pO q).toInt ≤ 9 := by
  unfold pO
  by_cases z : q = 0
  · rw [if_pos z]; exact ⟨by decide, by decide⟩
  · rw [if_neg z, nJ_toInt (by omega)]; omega
theorem Sp_and1 {d e y : Nat} {h : pm_H} {as : List Value} {Q Q' : pm_H → Option Value → Prop} (a : Sp d y h as Q) (b : Sp e y h as Q') : Sp d y h as (fun h' r => Q h' r ∧ Q' h' r) := by
  obtain ⟨h1, r1, a1, a2⟩ := a
  have a' : Sp (d + e) y h as (fun h' r => h' = h1 ∧ r = r1) := Sp_up ⟨h1, r1, a1, rfl, rfl⟩ e
  obtain ⟨h3, r3, c1, rfl, rfl⟩ := a'
  obtain ⟨h2, r2, b1, b2⟩ := Sp_le (Nat.le_add_left e d) b
  obtain ⟨rfl, rfl⟩ := pm_Rt_det _ _ _ _ _ _ _ _ c1 b1
  exact ⟨_, _, a1, a2, b2⟩
section PARKS
variable {h0 : pm_H} {d : Nat}
theorem pkX_clr {Q : pm_H → Option Value → Prop} {x : Int32} (hh0 : HH h0) (j : Nat) : ∀ {h : pm_H} {k : Nat} (lv : List (Nat × Value)), k + j = 10 → HH h → fr_g PKF h0 h → gi h 77 27 = nJ 0 → (∀ q, q < k → gi h 90 q = -1) → pm_get lv 0 = some (.ref 77) → pm_get lv 1 = some (.int x) → pm_get lv 2 = some (.int (nJ k)) → (∀ (h' : pm_H) (lv' : List (Nat × Value)), HH h' → fr_g PKF h0 h' → gi h' 77 27 = nJ 0 → (∀ q, q ≤ 9 → gi h' 90 q = -1) → pm_get lv' 0 = some (.ref 77) → pm_get lv' 1 = some (.int x) → pm_get lv' 2 = some (.int (nJ 0)) → Ends (pm_at tX9_parks) (pm_Rt pm_P d) (28, lv', [], h', 0, 0) Q) → Ends (pm_at tX9_parks) (pm_Rt pm_P d) (7, lv, [], h, 0, 0) Q := by
  induction j with
  | zero =>
    intro h k lv hj hh hf g1 g2 L0 L1 L2 kk
    refine E_il rfl L2 ?_
    refine E_ci 10 rfl (by decide) ?_
    refine E_icT rfl (decide_eq_true ((nJ_le (by omega) (by omega)).mpr (by omega))) ?_
    refine E_ci 0 rfl (by decide) ?_
    refine E_is rfl (fun lv1 K2 kp => ?_)
    exact kk h lv1 hh hf g1 (fun q hq => g2 q (by omega)) (kp 0 _ (by decide) rfl L0) (kp 1 _ (by decide) rfl L1) K2
  | succ j ih =>
    intro h k lv hj hh hf g1 g2 L0 L1 L2 kk
    refine E_il rfl L2 ?_
    refine E_ci 10 rfl (by decide) ?_
    refine E_icF rfl (decide_eq_false (fun z => absurd ((nJ_le (by omega) (by omega)).mp z) (by omega))) ?_
    refine E_al rfl L0 ?_
    refine E_gr rfl hh (q := 90) rfl ?_
    refine E_il rfl L2 ?_
    refine E_c rfl ?_
    refine E_ias rfl hh rfl (by omega) (by decide) ?_
    have b : bd 90 k = some (-1, 7) := bd_u rfl (by omega)
    have hh1 : HH (pt h 90 k (-1)) := HH_pt hh b (by decide) (by decide)
    refine E_inc rfl L2 (nJ_inc _) (fun lv1 K2 kp => ?_)
    refine E_goto rfl ?_
    refine ih lv1 (by omega) hh1 (fr_ptr (l := 0) (u := 9) rfl (by omega) (by omega) hf) (by rw [gi_ne (by omega)]; exact g1) (fun q hq => ?_) (kp 0 _ (by decide) rfl L0) (kp 1 _ (by decide) rfl L1) K2 kk
    by_cases e : q = k
    · rw [e]; exact gi_pt hh b (by decide) (by decide)
    · rw [gi_ne (fun _ => e)]; exact g2 q (by omega)
theorem pkX_loop {l s : Nat} (hh0 : HH h0) (l3 : l ≤ 3) (s5 : s < 512) (gs : gi h0 77 23 = nJ s) (V : ∀ c, c < gn h0 84 3 → 1 ≤ gn h0 89 c ∧ gn h0 89 c ≤ gn h0 84 0) (j : Nat) : ∀ {h : pm_H} {c : Nat} (lv : List (Nat × Value)), c + j = gn h0 84 3 → HH h → fr_g PKF h0 h → PKD l (gn h0 84 0) s (gn h0 89) c h → pm_get lv 0 = some (.ref 77) → pm_get lv 1 = some (.int (nJ l)) → pm_get lv 2 = some (.int (nJ c)) → Ends (pm_at tX9_parks) (pm_Rt pm_P (d + 3)) (28, lv, [], h, 0, 0) (fun h' r => r = none ∧ HH h' ∧ fr_g PKF h0 h' ∧ PKD l (gn h0 84 0) s (gn h0 89) (gn h0 84 3) h') := by
  have n8 : gn h0 84 3 ≤ 8 := gn_hi hh0 rfl (by decide)
  have p8 : gn h0 84 0 ≤ 8 := gn_hi hh0 rfl (by decide)
  induction j with
  | zero =>
    intro h c lv hj hh hf K L0 L1 L2
    have ec : gn h 84 3 = gn h0 84 3 := fr_gn hf (rg_no rfl _)
    refine E_il rfl L2 ?_
    refine E_al rfl L0 ?_
    refine E_call rfl (Sp_le (by omega) (sp_cars (d := d) hh)) (chk77 hh rfl rfl (by show 1 ≤ 8; decide)) (fun h1 r1 => ?_)
    rintro ⟨e1, f1, -⟩
    rw [e1, f1, ec]
    refine E_icT rfl (decide_eq_true ((nJ_le (by omega) (by omega)).mpr (by omega))) ?_
    have e : c = gn h0 84 3 := by omega
    exact E_ret rfl ⟨rfl, hh, hf, e ▸ K⟩
  | succ j ih =>
    intro h c lv hj hh hf K L0 L1 L2
    obtain ⟨k1, k2, k3⟩ := K
    have ec : gn h 84 3 = gn h0 84 3 := fr_gn hf (rg_no rfl _)
    refine E_il rfl L2 ?_
    refine E_al rfl L0 ?_
    refine E_call rfl (Sp_le (by omega) (sp_cars (d := d) hh)) (chk77 hh rfl rfl (by show 1 ≤ 8; decide)) (fun h1 r1 => ?_)
    rintro ⟨e1, f1, -⟩
    rw [e1, f1, ec]
    refine E_icF rfl (decide_eq_false (fun z => absurd ((nJ_le (by omega) (by omega)).mp z) (by omega))) ?_
    refine E_al rfl L0 ?_
    refine E_gr rfl hh (q := 91) rfl ?_
    refine E_il rfl L2 ?_
    refine E_c rfl ?_
    refine E_ias rfl hh rfl (by omega) (by decide) ?_
    have b91 : bd 91 c = some (-1, 9) := bd_u rfl (by omega)
    have hg : HH (pt h 91 c (-1)) := HH_pt hh b91 (by decide) (by decide)
    have fg : fr_g PKF h0 (pt h 91 c (-1)) := fr_ptr (l := 0) (u := 7) rfl (by omega) (by omega) hf
    have g1 : gi (pt h 91 c (-1)) 77 27 = nJ (mss l (gn h0 84 0) s (gn h0 89) c) := by rw [gi_ne (by omega)]; exact k1
    have g2 : ∀ q, q ≤ 9 → gi (pt h 91 c (-1)) 90 q = pI (hd l (gn h0 84 0) s (gn h0 89) c q) := fun q hq => by rw [gi_ne (by omega)]; exact k2 q hq
    have g3 : ∀ i, i < c → gi (pt h 91 c (-1)) 91 i = pO (spt l (gn h0 84 0) s (gn h0 89) i) := fun i hi => by rw [gi_ne (by omega)]; exact k3 i hi
    have g4 : gi (pt h 91 c (-1)) 91 c = -1 := gi_pt hh b91 (by decide) (by decide)
    generalize pt h 91 c (-1) = g at hg fg g1 g2 g3 g4 ⊢
    have nx : ∀ {g' : pm_H} {lv' : List (Nat × Value)}, HH g' → fr_g PKF h0 g' → PKD l (gn h0 84 0) s (gn h0 89) (c + 1) g' → pm_get lv' 0 = some (.ref 77) → pm_get lv' 1 = some (.int (nJ l)) → pm_get lv' 2 = some (.int (nJ c)) → Ends (pm_at tX9_parks) (pm_Rt pm_P (d + 3)) (103, lv', [], g', 0, 0) (fun h' r => r = none ∧ HH h' ∧ fr_g PKF h0 h' ∧ PKD l (gn h0 84 0) s (gn h0 89) (gn h0 84 3) h') := by
      intro g' lv' a1 a2 a3 M0 M1 M2
      refine E_inc rfl M2 (nJ_inc _) (fun lv1 K2 kp => ?_)
      refine E_goto rfl ?_
      exact ih lv1 (by omega) a1 a2 a3 (kp 0 _ (by decide) rfl M0) (kp 1 _ (by decide) rfl M1) K2
    refine E_al rfl L0 ?_
    refine E_gf rfl hg rfl (show gi g 77 23 = nJ s from by rw [fr_gi fg rfl]; exact gs) ?_
    refine E_il rfl L2 ?_
    refine E_call rfl (Sp_le (by omega) (sp_isBit (d := d) s5 (show c < 9 by omega))) (chkS rfl (by show 0 ≤ 8; decide)) (fun h2 r2 => ?_)
    rintro ⟨e2, f2⟩
    rw [e2, f2]
    have ms := mss_lt (l := l) (p := gn h0 84 0) (s := s) (W := gn h0 89) c
    cases b : isB s c with
    | false =>
      have b' : ¬ isB s c = true := by rw [b]; decide
      have es : spt l (gn h0 84 0) s (gn h0 89) c = 0 := by unfold spt; rw [if_neg b']
      refine E_ifF rfl rfl ?_
      refine E_goto rfl ?_
      refine nx hg fg ⟨?_, fun q hq => ?_, fun i hi => ?_⟩ L0 L1 L2
      · show _ = nJ (if isB s c = true ∧ spt l (gn h0 84 0) s (gn h0 89) c = 0 then _ else _)
        rw [if_neg (fun q => b' q.1)]; exact g1
      · show _ = pI (if spt l (gn h0 84 0) s (gn h0 89) c = q ∧ q ≠ 0 then c + 1 else _)
        rw [if_neg (by rw [es]; rintro ⟨a, a'⟩; exact a' a.symm)]; exact g2 q hq
      · by_cases e : i = c
        · rw [e, g4, es]; rfl
        · exact g3 i (by omega)
    | true =>
      have v := V c (by omega)
      have es : spt l (gn h0 84 0) s (gn h0 89) c = sf l (gn h0 84 0) (tk l (gn h0 84 0) s (gn h0 89) c) (gn h0 89 c) := by unfold spt; rw [if_pos b]
      have ok := spt_ok (l := l) (s := s) (W := gn h0 89) v.1 v.2
      have q9 : spt l (gn h0 84 0) s (gn h0 89) c ≤ 9 := by rcases ok with e | ⟨_, e, _⟩ <;> omega
      have ep : gn g 84 0 = gn h0 84 0 := fr_gn fg (rg_no rfl _)
      refine E_ifT rfl rfl ?_
      refine E_al rfl L0 ?_
      refine E_al rfl L0 ?_
      refine E_gr rfl hg (q := 89) rfl ?_
      refine E_il rfl L2 ?_
      refine E_ial rfl hg rfl (by omega) (by decide) (show gi g 89 c = nJ (gn h0 89 c) from by rw [fr_gi fg (rg_no rfl _)]; exact gi_gn hh0 (q := (0, 8)) (bd_u rfl (by omega)) (by decide)) ?_
      refine E_il rfl L1 ?_
      refine E_call rfl (sp_findsBy (d := d) (m := tk l (gn h0 84 0) s (gn h0 89) c) hg l3 v.1 (by rw [ep]; exact v.2) (by
        rw [ep]
        intro q q1 qp
        have h9 := hd_le (l := l) (p := gn h0 84 0) (s := s) (W := gn h0 89) (q := q) c
        rw [g2 q (by omega), pI_n1 (by omega)]
        exact hd_free (by omega) (fun i hi => V i (by omega)) q q1 (by omega))) (chk77 hg rfl rfl (by show 0 ≤ 8; decide)) (fun h3 r3 => ?_)
      rintro ⟨e3, f3⟩
      rw [e3, f3, ep, ← es]
      generalize eq : spt l (gn h0 84 0) s (gn h0 89) c = q0 at ok q9 ⊢
      refine E_is rfl (fun lv1 K3 kp => ?_)
      have M0 := kp 0 _ (by decide) rfl L0
      have M1 := kp 1 _ (by decide) rfl L1
      have M2 := kp 2 _ (by decide) rfl L2
      refine E_al rfl M0 ?_
      refine E_gr rfl hg (q := 91) rfl ?_
      refine E_il rfl M2 ?_
      refine E_il rfl K3 ?_
      refine E_ias rfl hg rfl (by omega) (by decide) ?_
      have pl := pO_lo q9
      have hk : HH (pt g 91 c (pO q0)) := HH_pt hg b91 pl.1 pl.2
      have fk : fr_g PKF h0 (pt g 91 c (pO q0)) := fr_ptr (l := 0) (u := 7) rfl (by omega) (by omega) fg
      have m1 : gi (pt g 91 c (pO q0)) 77 27 = nJ (mss l (gn h0 84 0) s (gn h0 89) c) := by rw [gi_ne (by omega)]; exact g1
      have m2 : ∀ q, q ≤ 9 → gi (pt g 91 c (pO q0)) 90 q = pI (hd l (gn h0 84 0) s (gn h0 89) c q) := fun q hq => by rw [gi_ne (by omega)]; exact g2 q hq
      have m3 : ∀ i, i < c + 1 → gi (pt g 91 c (pO q0)) 91 i = pO (spt l (gn h0 84 0) s (gn h0 89) i) := fun i hi => by
        by_cases e : i = c
        · rw [e, eq]; exact gi_pt hg b91 pl.1 pl.2
        · rw [gi_ne (fun _ => e)]; exact g3 i (by omega)
      generalize pt g 91 c (pO q0) = k at hk fk m1 m2 m3 ⊢
      refine E_il rfl K3 ?_
      refine E_c rfl ?_
      by_cases z : q0 = 0
      · refine E_icF rfl (decide_eq_false (fun w => w ((pO_n1 (by omega)).mpr z))) ?_
        refine E_al rfl M0 ?_
        refine E_dup rfl rfl ?_
        refine E_gf rfl hk rfl m1 ?_
        refine E_ci 1 rfl (by decide) ?_
        refine E_il rfl M2 ?_
        refine E_bin rfl rfl ?_
        have m5 : mss l (gn h0 84 0) s (gn h0 89) c < 256 := Nat.lt_of_lt_of_le ms (Nat.le_trans (Nat.pow_le_pow_right (n := 2) (by omega) (show c ≤ 8 by omega)) (by decide))
        refine E_bin rfl (or_new (by omega) (by omega) (isB_hi ms)) ?_
        have e2 : mss l (gn h0 84 0) s (gn h0 89) c + 2 ^ c ≤ 255 := by
          have : 2 ^ (c + 1) = 2 ^ c + 2 ^ c := by rw [Nat.pow_succ]; omega
          have : 2 ^ (c + 1) ≤ 2 ^ 8 := Nat.pow_le_pow_right (by omega) (by omega)
          omega
        refine E_pf rfl hk rfl ?_
        refine E_goto rfl ?_
        refine nx (HH_ptn hk rfl (by omega) (by omega) (by omega)) (fr_ptr (l := 27) (u := 27) rfl (by omega) (by omega) fk) ⟨?_, fun q hq => ?_, fun i hi => ?_⟩ M0 M1 M2
        · show _ = nJ (if isB s c = true ∧ spt l (gn h0 84 0) s (gn h0 89) c = 0 then _ else _)
          rw [if_pos ⟨b, by rw [eq]; exact z⟩]
          exact gi_ptn hk rfl (by omega) (by omega) (by omega)
        · show _ = pI (if spt l (gn h0 84 0) s (gn h0 89) c = q ∧ q ≠ 0 then c + 1 else _)
          rw [eq, if_neg (by rw [z]; rintro ⟨a, a'⟩; exact a' a.symm), gi_ne (by omega)]; exact m2 q hq
        · rw [gi_ne (by omega)]; exact m3 i hi
      · obtain ⟨q1, qp, qf⟩ : 1 ≤ q0 ∧ q0 ≤ gn h0 84 0 ∧ isB (tk l (gn h0 84 0) s (gn h0 89) c) (q0 - 1) = false := by rcases ok with e | e; exact absurd e z; exact e
        refine E_icT rfl (decide_eq_true (fun w => z ((pO_n1 (by omega)).mp w))) ?_
        have ez : pO q0 = nJ q0 := by unfold pO; rw [if_neg z]
        rw [ez] at K3
        refine E_al rfl M0 ?_
        refine E_gr rfl hk (q := 90) rfl ?_
        refine E_il rfl K3 ?_
        refine E_il rfl M2 ?_
        refine E_ias rfl hk rfl (by omega) (by decide) ?_
        have b90 : bd 90 q0 = some (-1, 7) := bd_u rfl (by omega)
        refine nx (HH_ptn hk b90 (by omega) (by omega) (by omega)) (fr_ptr (l := 0) (u := 9) rfl (by omega) (by omega) fk) ⟨?_, fun q hq => ?_, fun i hi => ?_⟩ M0 M1 M2
        · show _ = nJ (if isB s c = true ∧ spt l (gn h0 84 0) s (gn h0 89) c = 0 then _ else _)
          rw [if_neg (by rw [eq]; exact fun w => z w.2), gi_ne (by omega)]; exact m1
        · show _ = pI (if spt l (gn h0 84 0) s (gn h0 89) c = q ∧ q ≠ 0 then c + 1 else _)
          rw [eq]
          by_cases e : q0 = q
          · rw [if_pos ⟨e, by omega⟩, ← e]
            exact gi_ptn hk b90 (by omega) (by omega) (by omega)
          · rw [if_neg (fun w => e w.1), gi_ne (fun _ w => e w.symm)]; exact m2 q hq
        · rw [gi_ne (by omega)]; exact m3 i hi
theorem sp_parksX {l s : Nat} (hh0 : HH h0) (l3 : l ≤ 3) (s5 : s < 512) (gs : gi h0 77 23 = nJ s) (V : ∀ c, c < gn h0 84 3 → 1 ≤ gn h0 89 c ∧ gn h0 89 c ≤ gn h0 84 0) : Sp (d + 4) 320 h0 [.ref 77, .int (nJ l)] (fun h' r => r = none ∧ HH h' ∧ fr_g PKF h0 h' ∧ PKD l (gn h0 84 0) s (gn h0 89) (gn h0 84 3) h') := by
  refine Sp_of aiX9_parks rfl rfl rfl ?_
  have L0 : pm_get (lv_args 0 [.ref 77, .int (nJ l)]) 0 = some (.ref 77) := rfl
  have L1 : pm_get (lv_args 0 [.ref 77, .int (nJ l)]) 1 = some (.int (nJ l)) := rfl
  generalize lv_args 0 [.ref 77, .int (nJ l)] = lv at L0 L1 ⊢
  refine E_al rfl L0 ?_
  refine E_ci 0 rfl (by decide) ?_
  refine E_pf rfl hh0 rfl ?_
  have hg : HH (pt h0 77 27 (nJ 0)) := HH_ptn hh0 rfl (by omega) (by omega) (by omega)
  refine E_ci 0 rfl (by decide) ?_
  refine E_is rfl (fun lv1 K2 kp => ?_)
  refine pkX_clr hh0 10 lv1 (by omega) hg (fr_ptr (l := 27) (u := 27) rfl (by omega) (by omega) (fr_rf _ _)) (gi_ptn hh0 rfl (by omega) (by omega) (by omega)) (fun q hq => absurd hq (Nat.not_lt_zero q)) (kp 0 _ (by decide) rfl L0) (kp 1 _ (by decide) rfl L1) K2 (fun h' lv' a1 a2 a3 a4 M0 M1 M2 => ?_)
  exact pkX_loop hh0 l3 s5 gs V (gn h0 84 3) (c := 0) lv' (by omega) a1 a2 ⟨a3, fun q hq => a4 q hq, fun i hi => absurd hi (Nat.not_lt_zero i)⟩ M0 M1 M2
/-! the street's numbers, by the reference's cells -/
noncomputable def L9 (h : pm_H) : Nat := gn h 84 1
noncomputable def P9 (h : pm_H) : Nat := gn h 84 0
noncomputable def N9 (h : pm_H) : Nat := gn h 84 3
noncomputable def SP9 (h : pm_H) (i : Nat) : Nat := spt (L9 h) (P9 h) (2 ^ N9 h - 1) (W9 h) i
noncomputable def MS9 (h : pm_H) : Nat := mss (L9 h) (P9 h) (2 ^ N9 h - 1) (W9 h) (N9 h)
noncomputable def TK9 (h : pm_H) : Nat := tk (L9 h) (P9 h) (2 ^ N9 h - 1) (W9 h) (N9 h)
noncomputable def WL9 (h : pm_H) : Nat := wlk (L9 h) (P9 h) (2 ^ N9 h - 1) (W9 h) (N9 h)
noncomputable def HD9 (h : pm_H) (q : Nat) : Nat := hd (L9 h) (P9 h) (2 ^ N9 h - 1) (W9 h) (N9 h) q
/-- what a heap must keep of another for these numbers -/
noncomputable def K9 (h h' : pm_H) : Prop := (∀ k, gn h' 84 k = gn h 84 k) ∧ (∀ k, gn h' 85 k = gn h 85 k) ∧ (∀ k, gn h' 87 k = gn h 87 k) ∧ ∀ k, gi h' 83 k = gi h 83 k
theorem W9_K {h h' : pm_H} (k : K9 h h') : W9 h' = W9 h := by
  obtain ⟨e4, e5, e7, -⟩ := k
  have a : C9 h' = C9 h := funext (fun i => e7 _)
  have b : G9 h' = G9 h := funext (fun i => e7 _)
  have c : Z9 h' = Z9 h := funext (fun i => e7 _)
  have d : t9 h' = t9 h := funext (fun i => e5 _)
  unfold W9
  rw [a, b, c, d, e4]
theorem V9_K {h h' : pm_H} (k : K9 h h') (V : V9 h) : V9 h' := by
  obtain ⟨e4, e5, e7, -⟩ := k
  intro i hi
  rw [e4] at hi
  have q := V i hi
  unfold vAct C9 G9 Z9 at q ⊢
  rw [e4, e4, e7, e7, e7]
  exact q
theorem L9_K {h h' : pm_H} (k : K9 h h') : L9 h' = L9 h := k.1 _
theorem P9_K {h h' : pm_H} (k : K9 h h') : P9 h' = P9 h := k.1 _
theorem N9_K {h h' : pm_H} (k : K9 h h') : N9 h' = N9 h := k.1 _
theorem SP9_K {h h' : pm_H} (k : K9 h h') : SP9 h' = SP9 h := by funext i; unfold SP9; rw [L9_K k, P9_K k, N9_K k, W9_K k]
theorem MS9_K {h h' : pm_H} (k : K9 h h') : MS9 h' = MS9 h := by unfold MS9; rw [L9_K k, P9_K k, N9_K k, W9_K k]
theorem TK9_K {h h' : pm_H} (k : K9 h h') : TK9 h' = TK9 h := by unfold TK9; rw [L9_K k, P9_K k, N9_K k, W9_K k]
theorem WL9_K {h h' : pm_H} (k : K9 h h') : WL9 h' = WL9 h := by unfold WL9; rw [L9_K k, P9_K k, N9_K k, W9_K k]
theorem HD9_K {h h' : pm_H} (k : K9 h h') : HD9 h' = HD9 h := by funext i; unfold HD9; rw [L9_K k, P9_K k, N9_K k, W9_K k]
theorem K9_fr {M : List Rng} {h h' : pm_H} (hf : fr_g M h h') (h4 : M.all (fun r => !(Nat.beq r.1 84)) = true) (h5 : M.all (fun r => !(Nat.beq r.1 85)) = true) (h7 : M.all (fun r => !(Nat.beq r.1 87)) = true) (h3 : M.all (fun r => !(Nat.beq r.1 83)) = true) : K9 h h' := ⟨fun k => fr_gn hf (rg_no h4 k), fun k => fr_gn hf (rg_no h5 k), fun k => fr_gn hf (rg_no h7 k), fun k => fr_gi hf (rg_no h3 k)⟩
theorem K9_77 {h : pm_H} {v : Int32} : K9 h (pt h 77 0 v) := ⟨fun k => gn_ne (by omega), fun k => gn_ne (by omega), fun k => gn_ne (by omega), fun k => gi_ne (by omega)⟩
/-- wishes lie within the places -/
noncomputable def B9 (h : pm_H) : Prop := ∀ c, c < N9 h → 1 ≤ W9 h c ∧ W9 h c ≤ P9 h
theorem B9_K {h h' : pm_H} (k : K9 h h') (B : B9 h) : B9 h' := by
  intro c hc
  rw [N9_K k] at hc
  rw [W9_K k, P9_K k]
  exact B c hc
theorem B9_of {h : pm_H} (R : QRE h) : B9 h := fun c hc => (now_eq R c hc).2
theorem g9s {h : pm_H} (hh : HH h) : L9 h ≤ 3 ∧ P9 h ≤ 8 ∧ N9 h ≤ 8 := ⟨gn_hi hh rfl (by decide), gn_hi hh rfl (by decide), gn_hi hh rfl (by decide)⟩
/-- what laysNow leaves -/
noncomputable def LN9 (h h' : pm_H) : Prop := HH h' ∧ fr_g LNF h h' ∧ gi h' 77 27 = nJ (MS9 h) ∧ (∀ q, q ≤ 9 → gi h' 90 q = pI (HD9 h q)) ∧ (∀ i, i < N9 h → gi h' 91 i = pO (SP9 h i)) ∧ ∀ i, i < N9 h → gi h' 89 i = nJ (W9 h i)
theorem sp_laysNowX (hh0 : HH h0) (hV : V9 h0) (hB : B9 h0) : Sp (d + 5) 296 h0 [.ref 77] (fun h' r => r = none ∧ LN9 h0 h') := by
  obtain ⟨l3, p8, n8⟩ := g9s hh0
  refine Sp_of aiX9_laysNow rfl rfl rfl ?_
  have L0 : pm_get (lv_args 0 [.ref 77]) 0 = some (.ref 77) := rfl
  generalize lv_args 0 [.ref 77] = lv at L0 ⊢
  refine E_al rfl L0 ?_
  refine E_call rfl (Sp_le (by omega) (sp_laysX (d := d) hh0 hV)) (chk77 hh0 rfl rfl (by show 0 ≤ 8; decide)) (fun h1 r1 => ?_)
  rintro ⟨e1, hh1, f1, a1, a2, a3⟩
  rw [e1]
  have e0 : gn h1 84 0 = P9 h0 := fr_gn f1 (rg_no rfl _)
  have e3 : gn h1 84 3 = N9 h0 := fr_gn f1 (rg_no rfl _)
  have wb : ∀ c, c < gn h1 84 3 → 1 ≤ gn h1 89 c ∧ gn h1 89 c ≤ gn h1 84 0 := fun c hc => by
    rw [e3] at hc
    rw [a3 c hc, e0]
    exact hB c hc
  refine E_al rfl L0 ?_
  refine E_al rfl L0 ?_
  refine E_gf rfl hh1 rfl a1 ?_
  refine E_call rfl (sp_parksX (d := d) (l := gn h0 84 1) hh1 l3 (all_lt n8) a2 wb) (chk77 hh1 rfl rfl (by show 0 ≤ 8; decide)) (fun h2 r2 => ?_)
  rintro ⟨e2, hh2, f2, t2⟩
  rw [e2]
  rw [e0, e3] at t2
  obtain ⟨t1, t3, t4⟩ := PKD_W (W' := W9 h0) (fun c hc => a3 c hc) t2
  refine E_ret rfl ⟨rfl, hh2, fr_trans (fr_wk rfl f1) (fr_wk rfl f2), t1, t3, t4, fun i hi => ?_⟩
  rw [fr_gi f2 (rg_no rfl _), gi_gn hh1 (q := (0, 8)) (bd_u rfl (by omega)) (by decide), a3 i hi]
/-- what laysNow leaves, by the numbers of a heap that knows the same street -/
noncomputable def LV9 (h h' : pm_H) : Prop := HH h' ∧ gn h' 84 0 = P9 h ∧ gn h' 84 3 = N9 h ∧ gi h' 77 27 = nJ (MS9 h) ∧ (∀ q, q ≤ 9 → gi h' 90 q = pI (HD9 h q)) ∧ (∀ i, i < N9 h → gi h' 91 i = pO (SP9 h i)) ∧ ∀ i, i < N9 h → gi h' 89 i = nJ (W9 h i)
theorem LV9_of {h g h' : pm_H} (k : K9 h g) (T : LN9 g h') : LV9 h h' := by
  obtain ⟨a1, a2, a3, a4, a5, a6⟩ := T
  rw [MS9_K k] at a3
  rw [HD9_K k] at a4
  rw [SP9_K k, N9_K k] at a5
  rw [W9_K k, N9_K k] at a6
  exact ⟨a1, (fr_gn a2 (rg_no rfl _)).trans (P9_K k), (fr_gn a2 (rg_no rfl _)).trans (N9_K k), a3, a4, a5, a6⟩
/-- the class's Lot in the same numbers -/
noncomputable def LT9 (h h' : pm_H) : Prop := HH h' ∧ fr_g FL h h' ∧ gi h' 62 1 = nJ (TK9 h) ∧ gi h' 62 2 = nJ (MS9 h) ∧ gi h' 62 3 = nJ (WL9 h) ∧ (∀ i, i < N9 h → gi h' 63 i = nJ (SP9 h i)) ∧ gi h' 15 4 = nJ (N9 h) ∧ gi h' 15 0 = nJ (P9 h) ∧ ∀ i, i < N9 h → gi h' 17 i = nJ (W9 h i)
theorem sp_parkAllX (hh : HH h0) (R : QRE h0) : Sp (d + 5) 154 h0 [.ref 0] (fun h' r => r = none ∧ LT9 h0 h') := by
  have s := R.2.1.1
  have e4 : gn h0 15 4 = N9 h0 := gn_eq s.2.2.1
  have e0 : gn h0 15 0 = P9 h0 := gn_eq (s.2.1 0 (by omega))
  have e1 : gn h0 15 1 = L9 h0 := gn_eq (s.2.1 1 (by omega))
  obtain ⟨-, -, n8⟩ := g9s hh
  have ne : ∀ c, c < N9 h0 → gn h0 17 c = W9 h0 c := fun c hc => (now_eq R c hc).1
  refine Sp_mono ?_ (sp_parkAll (d := d) hh (fun c hc => by rw [e4] at hc; rw [ne c hc, e0]; exact B9_of R c hc))
  rintro h' r ⟨rfl, a1, a2, a3⟩
  rw [e4, e0, e1] at a3
  obtain ⟨t1, t2, t3, t4⟩ := a3
  refine ⟨rfl, a1, a2, ?_, ?_, ?_, fun i hi => ?_, ?_, ?_, fun i hi => ?_⟩
  · rw [t1, sf_W (W' := W9 h0) ne]; rfl
  · rw [t2, mss_W (W' := W9 h0) ne]; rfl
  · rw [t3, wlk_W (W' := W9 h0) ne]; rfl
  · rw [t4 i hi, spt_W (W' := W9 h0) (fun c hc => ne c (by omega))]; rfl
  · rw [fr_gi a2 (rg_no rfl _), ← e4]; exact gi_gn hh rfl (by decide)
  · rw [fr_gi a2 (rg_no rfl _), ← e0]; exact gi_gn hh rfl (by decide)
  · rw [fr_gi a2 (rg_no rfl _), ← ne i hi]; exact gi_gn hh (q := (0, 8)) (bd_u rfl (by omega)) (by decide)
/-! answers -/
noncomputable def qv (h : pm_H) (v : Int32) : Int32 := if 0 < (gi h 83 0).toInt then v else -2
noncomputable def cq (h : pm_H) (f : Nat → Int32) (x : Int32) : Int32 := if 0 ≤ x.toInt ∧ x.toInt < (N9 h : Int) then f x.toInt.toNat else -2
noncomputable def pq (h : pm_H) (f : Nat → Int32) (x : Int32) : Int32 := if 0 < (gi h 83 0).toInt ∧ 1 ≤ x.toInt ∧ x.toInt ≤ (P9 h : Int) then f x.toInt.toNat else -2
theorem qv_K {h h' : pm_H} {v : Int32} (k : K9 h h') : qv h' v = qv h v := by unfold qv; rw [k.2.2.2]
theorem cq_K {h h' : pm_H} {f : Nat → Int32} {x : Int32} (k : K9 h h') : cq h' f x = cq h f x := by unfold cq; rw [N9_K k]
theorem pq_K {h h' : pm_H} {f : Nat → Int32} {x : Int32} (k : K9 h h') : pq h' f x = pq h f x := by unfold pq; rw [k.2.2.2, P9_K k]
theorem st_eq {h : pm_H} (R : QRE h) : 0 < gn h 15 0 ↔ 0 < (gi h 83 0).toInt := by
  obtain ⟨s1, -, -, -, s5⟩ := R.2.1.1
  rw [s1] at s5
  constructor
  · intro a
    exact Decidable.byContradiction (fun q => by have := s5.mpr q; omega)
  · intro a
    rcases Nat.eq_zero_or_pos (gn h 15 0) with z | z
    · exact absurd a (s5.mp z)
    · exact z
theorem SP9_ok {h : pm_H} (B : B9 h) {i : Nat} (hi : i < N9 h) : okS (P9 h) (tk (L9 h) (P9 h) (2 ^ N9 h - 1) (W9 h) i) (SP9 h i) := spt_ok (B i hi).1 (B i hi).2
theorem SP9_le {h : pm_H} (B : B9 h) {i : Nat} (hi : i < N9 h) : SP9 h i ≤ P9 h := by rcases SP9_ok B hi with e | ⟨_, e, _⟩ <;> omega
noncomputable def ds9 (h : pm_H) (i : Nat) : Nat := dst (SP9 h i) (W9 h i)
theorem ds9_K {h h' : pm_H} (k : K9 h h') : ds9 h' = ds9 h := by funext i; unfold ds9; rw [SP9_K k, W9_K k]
theorem sp_stepsInLot {h h2 : pm_H} (hh : HH h) (B : B9 h) (T : LT9 h h2) {i : Nat} (hi : i < N9 h) : Sp (d + 2) 184 h2 [.ref 0, .int (nJ i)] (fun h' r => h' = h2 ∧ r = some (.int (nJ (ds9 h i)))) := by
  obtain ⟨hh2, f, t1, t2, t3, t4, t5, t6, t7⟩ := T
  obtain ⟨-, p8, n8⟩ := g9s hh
  have s8 := SP9_le B hi
  have w8 := (B i hi).2
  refine Sp_of aiX8_stepsInLot rfl rfl rfl ?_
  have L0 : pm_get (lv_args 0 [.ref 0, .int (nJ i)]) 0 = some (.ref 0) := rfl
  have L1 : pm_get (lv_args 0 [.ref 0, .int (nJ i)]) 1 = some (.int (nJ i)) := rfl
  generalize lv_args 0 [.ref 0, .int (nJ i)] = lv at L0 L1 ⊢
  refine E_al rfl L0 ?_
  refine E_ogr (q := 62) rfl hh2 rfl rfl ?_
  refine E_ogr (q := 63) rfl hh2 rfl rfl ?_
  refine E_il rfl L1 ?_
  refine E_ial rfl hh2 rfl (by omega) (by decide) (t4 i hi) ?_
  refine E_al rfl L0 ?_
  refine E_ogr (q := 15) rfl hh2 rfl rfl ?_
  refine E_ogr (q := 17) rfl hh2 rfl rfl ?_
  refine E_il rfl L1 ?_
  refine E_ial rfl hh2 rfl (by omega) (by decide) (t7 i hi) ?_
  refine E_bin rfl rfl ?_
  refine E_call rfl (sp_absD (d := d) (by omega) (by omega)) (chkS rfl (by show 0 ≤ 8; decide)) (fun h3 r3 => ?_)
  rintro ⟨e3, f3⟩
  rw [e3, f3]
  exact E_rti rfl ⟨rfl, rfl⟩
theorem sp_far0 {h : pm_H} {a b : Nat} (ha : a < 1000) (hb : b < 1000) : Sp (d + 1) 245 h [.int (nJ a), .int (nJ b)] (fun h' r => h' = h ∧ r = some (.int (nJ (dst a b)))) := by
  refine Sp_of aiX9_far0 rfl rfl rfl ?_
  have L0 : pm_get (lv_args 0 [.int (nJ a), .int (nJ b)]) 0 = some (.int (nJ a)) := rfl
  have L1 : pm_get (lv_args 0 [.int (nJ a), .int (nJ b)]) 1 = some (.int (nJ b)) := rfl
  generalize lv_args 0 [.int (nJ a), .int (nJ b)] = lv at L0 L1 ⊢
  refine E_il rfl L0 ?_
  refine E_il rfl L1 ?_
  by_cases c : b ≤ a
  · refine E_icT rfl (decide_eq_true ((nJ_le (by omega) (by omega)).mpr c)) ?_
    refine E_il rfl L0 ?_
    refine E_il rfl L1 ?_
    refine E_bin rfl (nJ_sub c) ?_
    exact E_rti rfl ⟨rfl, by unfold dst; rw [show a - b + (b - a) = a - b by omega]⟩
  · refine E_icF rfl (decide_eq_false (fun z => c ((nJ_le (by omega) (by omega)).mp z))) ?_
    refine E_il rfl L1 ?_
    refine E_il rfl L0 ?_
    refine E_bin rfl (nJ_sub (by omega)) ?_
    refine E_goto rfl ?_
    exact E_rti rfl ⟨rfl, by unfold dst; rw [show a - b + (b - a) = b - a by omega]⟩
theorem sp_stepsOf {h h2 : pm_H} (hh : HH h) (B : B9 h) (T : LV9 h h2) {i : Nat} (hi : i < N9 h) (z : ¬ SP9 h i = 0) : Sp (d + 2) 353 h2 [.ref 77, .int (nJ i)] (fun h' r => h' = h2 ∧ r = some (.int (nJ (ds9 h i)))) := by
  obtain ⟨hh2, u0, u3, t1, t2, t3, t4⟩ := T
  obtain ⟨-, p8, n8⟩ := g9s hh
  have s8 := SP9_le B hi
  have w8 := (B i hi).2
  refine Sp_of aiX9_stepsOf rfl rfl rfl ?_
  have L0 : pm_get (lv_args 0 [.ref 77, .int (nJ i)]) 0 = some (.ref 77) := rfl
  have L1 : pm_get (lv_args 0 [.ref 77, .int (nJ i)]) 1 = some (.int (nJ i)) := rfl
  generalize lv_args 0 [.ref 77, .int (nJ i)] = lv at L0 L1 ⊢
  refine E_al rfl L0 ?_
  refine E_gr rfl hh2 (q := 91) rfl ?_
  refine E_il rfl L1 ?_
  refine E_ial rfl hh2 rfl (by omega) (by decide) (show gi h2 91 i = nJ (SP9 h i) from by rw [t3 i hi]; unfold pO; rw [if_neg z]) ?_
  refine E_al rfl L0 ?_
  refine E_gr rfl hh2 (q := 89) rfl ?_
  refine E_il rfl L1 ?_
  refine E_ial rfl hh2 rfl (by omega) (by decide) (t4 i hi) ?_
  refine E_call rfl (sp_far0 (d := d) (by omega) (by omega)) (chkS rfl (by show 0 ≤ 8; decide)) (fun h3 r3 => ?_)
  rintro ⟨e3, f3⟩
  rw [e3, f3]
  exact E_rti rfl ⟨rfl, rfl⟩
end PARKS
end
section
/-! what is wanted, counted by both (wants u67b; cw of t1) -/
/-- the class's street in the reference's numbers -/
noncomputable def CW8 (h : pm_H) : Prop := gi h 15 4 = nJ (N9 h) ∧ gi h 15 0 = nJ (P9 h) ∧ ∀ i, i < N9 h → gi h 17 i = nJ (W9 h i)
noncomputable def LY9 (h h' : pm_H) : Prop := HH h' ∧ gn h' 84 0 = P9 h ∧ gn h' 84 3 = N9 h ∧ ∀ c, c < N9 h → gn h' 89 c = W9 h c
noncomputable def LW9 (h : pm_H) : Bool := Nat.beq (N9 h) (P9 h) && (List.range (P9 h)).all (fun q => Nat.ble (q + 1) (cw (W9 h) (q + 1) (N9 h)))
theorem LW9_iff {h : pm_H} : LW9 h = true ↔ N9 h = P9 h ∧ ∀ p, 1 ≤ p → p ≤ P9 h → p ≤ cw (W9 h) p (N9 h) := by
  unfold LW9
  rw [Bool.and_eq_true, List.all_eq_true]
  constructor
  · rintro ⟨a, b⟩
    refine ⟨Nat.eq_of_beq_eq_true a, fun p p1 pp => ?_⟩
    have := Nat.le_of_ble_eq_true (b (p - 1) (List.mem_range.mpr (by omega)))
    rw [show p - 1 + 1 = p by omega] at this
    exact this
  · rintro ⟨a, b⟩
    refine ⟨by rw [a]; exact Nat.beq_refl _, fun q hq => Nat.ble_eq_true_of_le (b (q + 1) (by omega) (by have := List.mem_range.mp hq; omega))⟩
section WSH
variable {h h2 : pm_H} {d : Nat}
theorem CW8_of (hh : HH h) (R : QRE h) : CW8 h := by
  have s := R.2.1.1
  have e4 : gn h 15 4 = N9 h := gn_eq s.2.2.1
  have e0 : gn h 15 0 = P9 h := gn_eq (s.2.1 0 (by omega))
  obtain ⟨-, -, n8⟩ := g9s hh
  refine ⟨?_, ?_, fun i hi => ?_⟩
  · rw [← e4]; exact gi_gn hh rfl (by decide)
  · rw [← e0]; exact gi_gn hh rfl (by decide)
  · rw [← (now_eq R i hi).1]; exact gi_gn hh (q := (0, 8)) (bd_u rfl (by omega)) (by decide)
theorem LW9_K {h' : pm_H} (k : K9 h h') : LW9 h' = LW9 h := by unfold LW9; rw [N9_K k, P9_K k, W9_K k]
theorem cwP {p : Nat} (B : B9 h) (hp : P9 h ≤ p) : cw (W9 h) p (N9 h) = N9 h := by
  have : ∀ n, n ≤ N9 h → cw (W9 h) p n = n := by
    intro n
    induction n with
    | zero => intro _; rfl
    | succ n ih =>
      intro hn
      have := (B n (by omega)).2
      rw [cw_T (show W9 h n ≤ p by omega), ih (by omega)]
  exact this _ (Nat.le_refl _)
theorem wu_loop {p : Nat} (hh : HH h) (F : CW8 h) (B : B9 h) (hp : p < 1000) (j : Nat) : ∀ {c : Nat} (lv : List (Nat × Value)), c + j = N9 h → pm_get lv 0 = some (.ref 0) → pm_get lv 1 = some (.int (nJ p)) → pm_get lv 2 = some (.int (nJ (cw (W9 h) p c))) → pm_get lv 3 = some (.int (nJ c)) → Ends (pm_at tX8_wishesUpTo) (pm_Rt pm_P d) (4, lv, [], h, 0, 0) (fun h' r => h' = h ∧ r = some (.int (nJ (cw (W9 h) p (N9 h))))) := by
  obtain ⟨f4, f0, f17⟩ := F
  obtain ⟨-, p8, n8⟩ := g9s hh
  induction j with
  | zero =>
    intro c lv hj L0 L1 L2 L3
    refine E_il rfl L3 ?_
    refine E_al rfl L0 ?_
    refine E_ogr (q := 15) rfl hh rfl rfl ?_
    refine E_ogf (q := (0, 8)) rfl hh rfl rfl f4 ?_
    refine E_icT rfl (decide_eq_true ((nJ_le (by omega) (by omega)).mpr (by omega))) ?_
    refine E_il rfl L2 ?_
    have e : c = N9 h := by omega
    exact E_rti rfl ⟨rfl, by rw [e]⟩
  | succ j ih =>
    intro c lv hj L0 L1 L2 L3
    have hc : c < N9 h := by omega
    have wb := (B c hc).2
    refine E_il rfl L3 ?_
    refine E_al rfl L0 ?_
    refine E_ogr (q := 15) rfl hh rfl rfl ?_
    refine E_ogf (q := (0, 8)) rfl hh rfl rfl f4 ?_
    refine E_icF rfl (decide_eq_false (fun z => absurd ((nJ_le (by omega) (by omega)).mp z) (by omega))) ?_
    refine E_al rfl L0 ?_
    refine E_ogr (q := 15) rfl hh rfl rfl ?_
    refine E_ogr (q := 17) rfl hh rfl rfl ?_
    refine E_il rfl L3 ?_
    refine E_ial rfl hh rfl (by omega) (by decide) (f17 c hc) ?_
    refine E_il rfl L1 ?_
    by_cases b : W9 h c ≤ p
    · refine E_icF rfl (decide_eq_false (fun z => absurd ((nJ_lt (by omega) (by omega)).mp z) (by omega))) ?_
      refine E_inc rfl L2 (nJ_inc _) (fun lv1 K2 kp => ?_)
      refine E_inc rfl (kp 3 _ (by decide) rfl L3) (nJ_inc _) (fun lv2 K3 kp2 => ?_)
      refine E_goto rfl ?_
      exact ih (c := c + 1) lv2 (by omega) (kp2 0 _ (by decide) rfl (kp 0 _ (by decide) rfl L0)) (kp2 1 _ (by decide) rfl (kp 1 _ (by decide) rfl L1)) (by rw [cw_T b]; exact kp2 2 _ (by decide) rfl K2) K3
    · refine E_icT rfl (decide_eq_true ((nJ_lt (by omega) (by omega)).mpr (by omega))) ?_
      refine E_inc rfl L3 (nJ_inc _) (fun lv2 K3 kp2 => ?_)
      refine E_goto rfl ?_
      exact ih (c := c + 1) lv2 (by omega) (kp2 0 _ (by decide) rfl L0) (kp2 1 _ (by decide) rfl L1) (by rw [cw_F b]; exact kp2 2 _ (by decide) rfl L2) K3
theorem sp_wishesUpTo8 {p : Nat} (hh : HH h) (F : CW8 h) (B : B9 h) (hp : p < 1000) : Sp (d + 1) 200 h [.ref 0, .int (nJ p)] (fun h' r => h' = h ∧ r = some (.int (nJ (cw (W9 h) p (N9 h))))) := by
  refine Sp_of aiX8_wishesUpTo rfl rfl rfl ?_
  have L0 : pm_get (lv_args 0 [.ref 0, .int (nJ p)]) 0 = some (.ref 0) := rfl
  have L1 : pm_get (lv_args 0 [.ref 0, .int (nJ p)]) 1 = some (.int (nJ p)) := rfl
  generalize lv_args 0 [.ref 0, .int (nJ p)] = lv at L0 L1 ⊢
  refine E_ci 0 rfl (by decide) ?_
  refine E_is rfl (fun lv1 K2 kp => ?_)
  refine E_ci 0 rfl (by decide) ?_
  refine E_is rfl (fun lv2 K3 kp2 => ?_)
  exact wu_loop hh F B hp (N9 h) (c := 0) lv2 (by omega) (kp2 0 _ (by decide) rfl (kp 0 _ (by decide) rfl L0)) (kp2 1 _ (by decide) rfl (kp 1 _ (by decide) rfl L1)) (kp2 2 _ (by decide) rfl K2) K3
theorem lw8_loop (hh : HH h) (F : CW8 h) (B : B9 h) (e : N9 h = P9 h) (j : Nat) : ∀ {p : Nat} (lv : List (Nat × Value)), p + j = P9 h + 1 → 1 ≤ p → (∀ q, 1 ≤ q → q < p → q ≤ cw (W9 h) q (N9 h)) → pm_get lv 0 = some (.ref 0) → pm_get lv 1 = some (.int (nJ p)) → Ends (pm_at tX8_isLawful) (pm_Rt pm_P (d + 1)) (21, lv, [], h, 0, 0) (fun h' r => h' = h ∧ r = some (.int (zb (LW9 h = true)))) := by
  have F0 := F
  obtain ⟨f4, f0, f17⟩ := F
  obtain ⟨-, p8, n8⟩ := g9s hh
  induction j with
  | zero =>
    intro p lv hj p1 V L0 L1
    refine E_il rfl L1 ?_
    refine E_al rfl L0 ?_
    refine E_ogr (q := 15) rfl hh rfl rfl ?_
    refine E_ogf (q := (0, 8)) rfl hh rfl rfl f0 ?_
    refine E_icT rfl (decide_eq_true ((nJ_lt (by omega) (by omega)).mpr (by omega))) ?_
    refine E_ci 1 rfl (by decide) ?_
    exact E_rtz rfl (.inr rfl) ⟨rfl, by rw [zb_T (LW9_iff.mpr ⟨e, fun q a b => V q a (by omega)⟩)]⟩
  | succ j ih =>
    intro p lv hj p1 V L0 L1
    refine E_il rfl L1 ?_
    refine E_al rfl L0 ?_
    refine E_ogr (q := 15) rfl hh rfl rfl ?_
    refine E_ogf (q := (0, 8)) rfl hh rfl rfl f0 ?_
    refine E_icF rfl (decide_eq_false (fun z => absurd ((nJ_lt (by omega) (by omega)).mp z) (by omega))) ?_
    refine E_al rfl L0 ?_
    refine E_il rfl L1 ?_
    have cl := cw_le (W9 h) p (N9 h)
    refine E_call rfl (Sp_le (by omega) (sp_wishesUpTo8 (d := d) (p := p) hh F0 B (by omega))) (chkO (a := 0) hh rfl rfl rfl rfl (by show 0 ≤ 8; decide)) (fun h1 r1 => ?_)
    rintro ⟨e1, f1⟩
    rw [e1, f1]
    refine E_il rfl L1 ?_
    by_cases b : p ≤ cw (W9 h) p (N9 h)
    · refine E_icT rfl (decide_eq_true ((nJ_le (by omega) (by omega)).mpr b)) ?_
      refine E_inc rfl L1 (nJ_inc _) (fun lv2 K1 kp2 => ?_)
      refine E_goto rfl ?_
      refine ih lv2 (by omega) (by omega) (fun q a c => ?_) (kp2 0 _ (by decide) rfl L0) K1
      by_cases z : q = p
      · rw [z]; exact b
      · exact V q a (by omega)
    · refine E_icF rfl (decide_eq_false (fun z => b ((nJ_le (by omega) (by omega)).mp z))) ?_
      refine E_ci 0 rfl (by decide) ?_
      exact E_rtz rfl (.inl rfl) ⟨rfl, by rw [zb_F (fun q => b ((LW9_iff.mp q).2 p p1 (by omega)))]⟩
theorem sp_isLawful8 (hh : HH h) (F : CW8 h) (B : B9 h) : Sp (d + 2) 125 h [.ref 0] (fun h' r => h' = h ∧ r = some (.int (zb (LW9 h = true)))) := by
  have F0 := F
  obtain ⟨f4, f0, f17⟩ := F
  obtain ⟨-, p8, n8⟩ := g9s hh
  refine Sp_of aiX8_isLawful rfl rfl rfl ?_
  have L0 : pm_get (lv_args 0 [.ref 0]) 0 = some (.ref 0) := rfl
  generalize lv_args 0 [.ref 0] = lv at L0 ⊢
  refine E_al rfl L0 ?_
  refine E_ogr (q := 15) rfl hh rfl rfl ?_
  refine E_ogf (q := (0, 8)) rfl hh rfl rfl f4 ?_
  refine E_al rfl L0 ?_
  refine E_ogr (q := 15) rfl hh rfl rfl ?_
  refine E_ogf (q := (0, 8)) rfl hh rfl rfl f0 ?_
  by_cases b : N9 h = P9 h
  · refine E_icT rfl (decide_eq_true ((nJ_eq (by omega) (by omega)).mpr b)) ?_
    refine E_ci 1 rfl (by decide) ?_
    refine E_is rfl (fun lv1 K1 kp => ?_)
    exact lw8_loop hh F0 B b (P9 h) (p := 1) lv1 (by omega) (by omega) (fun q a c => absurd c (by omega)) (kp 0 _ (by decide) rfl L0) K1
  · refine E_icF rfl (decide_eq_false (fun z => b ((nJ_eq (by omega) (by omega)).mp z))) ?_
    refine E_ci 0 rfl (by decide) ?_
    exact E_rtz rfl (.inl rfl) ⟨rfl, by rw [zb_F (fun q => b (LW9_iff.mp q).1)]⟩
/-! the reference -/
theorem sp_wantingX {p : Nat} (T : LY9 h h2) (hp : p < 2147483648) : Sp (d + 2) 369 h2 [.ref 77, .int (nJ p)] (fun h' r => h' = h2 ∧ r = some (.int (nJ (cw (W9 h) p (N9 h))))) := by
  obtain ⟨hh2, u0, u3, u9⟩ := T
  refine Sp_mono ?_ (sp_wanting (d := d) hh2 hp)
  rintro h' r ⟨e, f⟩
  refine ⟨e, ?_⟩
  rw [f, u3, cw_eq (g := W9 h) u9]
theorem lw9X_loop (hh : HH h) (T : LY9 h h2) (e : N9 h = P9 h) (j : Nat) : ∀ {p : Nat} (lv : List (Nat × Value)), p + j = P9 h + 1 → 1 ≤ p → (∀ q, 1 ≤ q → q < p → q ≤ cw (W9 h) q (N9 h)) → pm_get lv 0 = some (.ref 77) → pm_get lv 1 = some (.int (nJ p)) → Ends (pm_at tX9_isLawful) (pm_Rt pm_P (d + 2)) (15, lv, [], h2, 0, 0) (fun h' r => h' = h2 ∧ r = some (.int (zb (LW9 h = true)))) := by
  have T0 := T
  obtain ⟨hh2, u0, u3, u9⟩ := T
  obtain ⟨-, p8, n8⟩ := g9s hh
  induction j with
  | zero =>
    intro p lv hj p1 V L0 L1
    refine E_il rfl L1 ?_
    refine E_al rfl L0 ?_
    refine E_call rfl (Sp_le (by omega) (sp_places (d := d) hh2)) (chk77 hh2 rfl rfl (by show 1 ≤ 8; decide)) (fun h1 r1 => ?_)
    rintro ⟨e1, f1, -⟩
    rw [e1, f1, u0]
    refine E_icT rfl (decide_eq_true ((nJ_lt (by omega) (by omega)).mpr (by omega))) ?_
    refine E_ci 1 rfl (by decide) ?_
    exact E_rtz rfl (.inr rfl) ⟨rfl, by rw [zb_T (LW9_iff.mpr ⟨e, fun q a b => V q a (by omega)⟩)]⟩
  | succ j ih =>
    intro p lv hj p1 V L0 L1
    refine E_il rfl L1 ?_
    refine E_al rfl L0 ?_
    refine E_call rfl (Sp_le (by omega) (sp_places (d := d) hh2)) (chk77 hh2 rfl rfl (by show 1 ≤ 8; decide)) (fun h1 r1 => ?_)
    rintro ⟨e1, f1, -⟩
    rw [e1, f1, u0]
    refine E_icF rfl (decide_eq_false (fun z => absurd ((nJ_lt (by omega) (by omega)).mp z) (by omega))) ?_
    refine E_al rfl L0 ?_
    refine E_il rfl L1 ?_
    have cl := cw_le (W9 h) p (N9 h)
    refine E_call rfl (sp_wantingX (d := d) (p := p) T0 (by omega)) (chk77 hh2 rfl rfl (by show 0 ≤ 8; decide)) (fun h3 r3 => ?_)
    rintro ⟨e3, f3⟩
    rw [e3, f3]
    refine E_il rfl L1 ?_
    by_cases b : p ≤ cw (W9 h) p (N9 h)
    · refine E_icT rfl (decide_eq_true ((nJ_le (by omega) (by omega)).mpr b)) ?_
      refine E_inc rfl L1 (nJ_inc _) (fun lv2 K1 kp2 => ?_)
      refine E_goto rfl ?_
      refine ih lv2 (by omega) (by omega) (fun q a c => ?_) (kp2 0 _ (by decide) rfl L0) K1
      by_cases z : q = p
      · rw [z]; exact b
      · exact V q a (by omega)
    · refine E_icF rfl (decide_eq_false (fun z => b ((nJ_le (by omega) (by omega)).mp z))) ?_
      refine E_ci 0 rfl (by decide) ?_
      exact E_rtz rfl (.inl rfl) ⟨rfl, by rw [zb_F (fun q => b ((LW9_iff.mp q).2 p p1 (by omega)))]⟩
theorem sp_isLawful9 (hh : HH h) (T : LY9 h h2) : Sp (d + 3) 272 h2 [.ref 77] (fun h' r => h' = h2 ∧ r = some (.int (zb (LW9 h = true)))) := by
  have T0 := T
  obtain ⟨hh2, u0, u3, u9⟩ := T
  obtain ⟨-, p8, n8⟩ := g9s hh
  refine Sp_of aiX9_isLawful rfl rfl rfl ?_
  have L0 : pm_get (lv_args 0 [.ref 77]) 0 = some (.ref 77) := rfl
  generalize lv_args 0 [.ref 77] = lv at L0 ⊢
  refine E_al rfl L0 ?_
  refine E_call rfl (Sp_le (by omega) (sp_cars (d := d) hh2)) (chk77 hh2 rfl rfl (by show 0 ≤ 8; decide)) (fun h1 r1 => ?_)
  rintro ⟨e1, f1, -⟩
  rw [e1, f1, u3]
  refine E_al rfl L0 ?_
  refine E_call rfl (Sp_le (by omega) (sp_places (d := d) hh2)) (chk77 hh2 rfl rfl (by show 1 ≤ 8; decide)) (fun h3 r3 => ?_)
  rintro ⟨e3, f3, -⟩
  rw [e3, f3, u0]
  by_cases b : N9 h = P9 h
  · refine E_icT rfl (decide_eq_true ((nJ_eq (by omega) (by omega)).mpr b)) ?_
    refine E_ci 1 rfl (by decide) ?_
    refine E_is rfl (fun lv1 K1 kp => ?_)
    exact lw9X_loop hh T0 b (P9 h) (p := 1) lv1 (by omega) (by omega) (fun q a c => absurd c (by omega)) (kp 0 _ (by decide) rfl L0) K1
  · refine E_icF rfl (decide_eq_false (fun z => b ((nJ_eq (by omega) (by omega)).mp z))) ?_
    refine E_ci 0 rfl (by decide) ?_
    exact E_rtz rfl (.inl rfl) ⟨rfl, by rw [zb_F (fun q => b (LW9_iff.mp q).1)]⟩
theorem LY9_of {g : pm_H} (k : K9 h g) (hh2 : HH h2) (f : fr_g YM g h2) (w : ∀ c, c < gn g 84 3 → gn h2 89 c = W9 g c) : LY9 h h2 := by
  refine ⟨hh2, (fr_gn f (rg_no rfl _)).trans (P9_K k), (fr_gn f (rg_no rfl _)).trans (N9_K k), fun c hc => ?_⟩
  rw [w c (by rw [show gn g 84 3 = N9 h from N9_K k]; exact hc), W9_K k]
end WSH
end
