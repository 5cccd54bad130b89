/-! pairs over the streets' relation, II: street, undo, anew, rate, wants, trades, count (wants t61) -/
theorem prs_inv {T : Nat → Int32} {L : Nat} (f : Nat) : ∀ {n s : Nat} {σ : Sg}, Ws n σ → n ≤ s → s ≤ L → L < s + f → isR (prs T L f n σ s).1 = true → Ws (prs T L f n σ s).2.1 (prs T L f n σ s).2.2 ∧ (prs T L f n σ s).2.1 ≤ L := by
  induction f with
  | zero => intro n s σ _ _ h1 h2; omega
  | succ f ih =>
    intro n s σ W ns sL hL hr
    by_cases b2 : tkk T L s = 0
    · rw [prs_end b2]
      exact ⟨W, by show n ≤ L; omega⟩
    · cases x1 : bS T L (ln T L n σ s).1 with
      | inl e =>
        rw [prs_bad b2 x1] at hr
        cases hr
      | inr s' =>
        obtain ⟨t, et, k3, es⟩ := bS_in x1
        have tl := tkk_lt (T := T) (L := L) (s := t) (by omega)
        have nx := nxt_le (T := T) (Nat.le_of_lt tl)
        have nx2 := nx.2.2 tl
        have ge := ge_ln (T := T) (n := n) (σ := σ) sL
        rw [et] at ge
        have ge1 : s ≤ t := ge.1
        rw [prs_go b2 x1] at hr ⊢
        exact ih (Ws_ln W et) (by omega) (by omega) (by omega) hr
theorem PRS_inv {T : Nat → Int32} {L : Nat} (hr : isR (PRS T L).1 = true) : Ws (PRS T L).2.1 (PRS T L).2.2 ∧ (PRS T L).2.1 ≤ L := by
  have sk := skp_le (T := T) (L := L) (i := 0) (Nat.zero_le _)
  exact prs_inv (L + 1) (.inl ⟨rfl, rfl, rfl, rfl⟩) (Nat.zero_le _) sk.2 (by omega) hr
noncomputable def imB (M : List Rng) : Bool := [25, 26, 27, 28, 29, 30, 31, 32, 33, 34, 35, 36, 37, 38, 39, 40, 41, 42, 43, 44, 45, 46, 47, 48, 49, 50, 51, 52].all (nocell M)
theorem KEE_imB {M : List Rng} {h h' : pm_H} (hf : fr_g M h h') (hb : imB M = true) : ∀ k, k < 3 → KEE (imA k) h h'
  | 0, _ => KEE_fr hf (kB_cl hb (by decide))
  | 1, _ => KEE_fr hf (kB_cl hb (by decide))
  | 2, _ => KEE_fr hf (kB_cl hb (by decide))
theorem IMG_fr {M : List Rng} {h h' : pm_H} (hf : fr_g M h h') (hb : imB M = true) (k9 : ∀ r, 1 ≤ r → r ≤ 3 → KE9 r h h') (R : IMG h) : IMG h' := fun k hk q => by
  rw [fr_gi hf (rg_no (nc_at hb (by decide)) _)] at q
  exact ST_cp (KEE_c (KEE_imB hf hb k hk)) (KE9_c (k9 _ (by omega) (by omega))) (R k hk q)
theorem ST1_k {h h' : pm_H} (c : ∀ k, k ≤ 5 → gi h' 15 k = gi h 15 k) (r0 : gi h' 83 0 = gi h 83 0) (r : ∀ k, k < 5 → gi h' 84 k = gi h 84 k) (S : ST1 15 0 h) : ST1 15 0 h' := by
  obtain ⟨s1, s2, s3, s4, s5⟩ := S
  have e : ∀ k, 6 * 0 + k = k := fun k => by omega
  refine ⟨by rw [c 3 (by omega), r0]; exact s1, fun k hk => ?_, ?_, ?_, ?_⟩
  · have := s2 k hk
    rw [e] at this ⊢
    rw [c k (by omega), r k (by omega)]; exact this
  · rw [c 4 (by omega), r 3 (by omega)]; exact s3
  · rw [c 5 (by omega), r 4 (by omega)]; exact s4
  · rw [c 3 (by omega), gn_eq (c 0 (by omega))]; exact s5
theorem STD_k {h h' : pm_H} (c : gi h' 15 4 = gi h 15 4) (c2 : ∀ i, gi h' 18 i = gi h 18 i) (r : ∀ i, i < 16 → gi h' 85 i = gi h 85 i) (S : STD 15 0 h) : STD 15 0 h' := fun i hi q => by
  rw [gn_eq c] at q
  show gi h' 18 i = gi h' 85 (16 * 0 + (2 * i + 1))
  rw [c2, r _ (by omega)]
  exact S i hi q
/-! street -/
noncomputable def half_stQ (h : pm_H) (x : Int32) : Prop := gn h 1 1 = 0 ∧ KP h ∧ SL h ∧ IMG h ∧ ∃ (T : Nat → Int32) (L : Nat), TB T L h ∧ x = stv (PRS T L) ∧ (isR (PRS T L).1 = true → C0 (PRS T L).2.1 (PRS T L).2.2 h) ∧ (isR (PRS T L).1 = false → ST 15 0 h)
theorem g8_street {h : pm_H} (I : IVQ h) : Sp 100 185 h [.ref 0] (fun h' r => IVh h' ∧ ∃ x : Int32, r = some (.int x) ∧ half_stQ h' x) := by
  have hh : HH h := I.1.1
  have l5 : gn h 1 1 ≤ 500 := gn_hi hh rfl (by decide)
  have A : TA (gi h 2) (gn h 1 1) h := ⟨hh, gi_gn hh rfl (by decide), l5, fun _ _ => rfl⟩
  refine Sp_le (by omega) (Sp_mono ?_ (Sp_and (top_all (as := [.ref 0]) q106 (by decide +kernel) I.1 ⟨rfl, trivial⟩) (sp_street8 (d := 0) A)))
  rintro h' r ⟨⟨s1, s2, -⟩, rfl, hh', g1, -, -, good, bad⟩
  obtain ⟨T1, T2⟩ := I.2.1.1.1
  have k9 : ∀ r, KE9 r h h' := KE9_fr s2 rfl
  refine ⟨s1, _, rfl, gn_of g1 (by omega), KP_fr s2 rfl I.2.1.1.2, SL_fr s2 rfl I.2.1.2, IMG_fr s2 rfl (fun r _ _ => k9 r) I.2.2.2, gi h 2, gn h 1 1, ⟨hh', ?_, l5, fun j hj => ?_⟩, rfl, good, fun q => ?_⟩
  · rw [fr_gi s2 rfl, T1]
    exact gi_gn hh rfl (by decide)
  · rw [fr_gi s2 (rg_no rfl _)]
    exact (T2 j hj).symm
  · exact ST_cp (KEE_c (KEE_15 (bad q) rfl)) (KE9_c (k9 0)) I.2.2.1
theorem g9_street {h : pm_H} {x : Int32} (I : IVh h) (J : half_stQ h x) : Sp 100 354 h [.ref 77] (fun h' r => IVQ h' ∧ r = some (.int x)) := by
  obtain ⟨j1, j2, j3, j4, T, L, B, rfl, good, bad⟩ := J
  have l5 := B.2.2.1
  refine Sp_le (by omega) (Sp_mono ?_ (Sp_and (tv_street (d := 0) I.1 I.2.2) (sp_street9 (d := 0) B)))
  rintro h' r ⟨⟨a1, a2, a3, a4, a5⟩, rfl, -, -, -, -, gd, bd, ro⟩
  have e11 : gn h' 1 1 = gn h 1 1 := fr_gn a2 rfl
  have c : ∀ a k, 15 ≤ a → a ≤ 61 → gi h' a k = gi h a k := fun a k x1 x2 => fr_gi a2 (rg_no (by simp [VMS, VM, show Nat.beq 77 a = false from nbeqF (by omega), show Nat.beq 83 a = false from nbeqF (by omega), show Nat.beq 84 a = false from nbeqF (by omega), show Nat.beq 85 a = false from nbeqF (by omega), show Nat.beq 86 a = false from nbeqF (by omega), show Nat.beq 87 a = false from nbeqF (by omega), show Nat.beq 89 a = false from nbeqF (by omega), show Nat.beq 90 a = false from nbeqF (by omega), show Nat.beq 91 a = false from nbeqF (by omega), show Nat.beq 92 a = false from nbeqF (by omega), show Nat.beq 93 a = false from nbeqF (by omega), show Nat.beq 94 a = false from nbeqF (by omega), show Nat.beq 95 a = false from nbeqF (by omega), show Nat.beq 96 a = false from nbeqF (by omega), show Nat.beq 97 a = false from nbeqF (by omega), show Nat.beq 98 a = false from nbeqF (by omega), show Nat.beq 99 a = false from nbeqF (by omega), show Nat.beq 100 a = false from nbeqF (by omega), show Nat.beq 101 a = false from nbeqF (by omega), show Nat.beq 102 a = false from nbeqF (by omega)]) k)
  refine ⟨⟨IVh_fr (M := VMS) (by decide +kernel) a2 a1 I a3, ⟨⟨⟨by omega, fun j hj => by omega⟩, KP_fr a2 rfl j2⟩, SL_fr a2 rfl j3⟩, ?_, IMG_fr a2 rfl (fun r q1 q2 => ro r q2 q1) j4⟩, rfl⟩
  cases hr : isR (PRS T L).1 with
  | false => exact ST_cp (KEE_c (KEE_15 a2 rfl)) (KE9_c (KE9_st (bd hr) 0 (by omega))) (bad hr)
  | true =>
    obtain ⟨W, nL⟩ := PRS_inv hr
    obtain ⟨p0, p1, p2, p3, p4, p5, p6, pc, pj⟩ := good hr
    obtain ⟨q3, q0, q1, q2, q4, q5, q6, qc, qj⟩ := gd hr
    generalize (PRS T L).2.1 = n at W nL p3 q3
    generalize eσ : (PRS T L).2.2 = σ at W p0 p1 p2 p4 p5 pc pj q0 q1 q2 q4 q5 qc qj
    have cb : σ.1.1 ≤ 8 ∧ σ.2.1.1 ≤ 8 ∧ (σ.1.1 = 0 ↔ n = 0) := by
      rcases W with ⟨w1, w2, w3, -⟩ | ⟨w1, w2, w3, w4, -⟩ <;> omega
    have wt : Wt σ := by rw [← eσ]; exact PRS_wt hr
    have g4 : gn h' 15 4 = σ.2.1.1 := by rw [gn_eq (c 15 4 (by omega) (by omega)), gn_of p4 (by omega)]
    have b5 : gn h' 15 5 ≤ 8 := gn_hi a1 rfl (by decide)
    have g5 : gn h' 15 5 = σ.2.2.1 := by
      have j9 : σ.2.2.1 ≤ 9 := by rcases W with ⟨w1, w2, w3, w4⟩ | ⟨w1, w2, w3, w4, w5, w6, -⟩ <;> omega
      rw [gn_eq (c 15 5 (by omega) (by omega)), gn_of p5 (by omega)]
    have g6 : gn h' 15 6 = 0 := by rw [gn_eq (c 15 6 (by omega) (by omega)), gn_of p6 (by omega)]
    have g0 : gn h' 15 0 = σ.1.1 := by rw [gn_eq (c 15 0 (by omega) (by omega)), gn_of p0 (by omega)]
    refine ⟨⟨?_, fun k hk => ?_, ?_, ?_, ?_⟩, ?_, fun i hi q => ?_, ⟨by omega, b5, by omega⟩, ⟨fun i hi => ?_, fun i hi => ?_⟩, fun i hi => by omega, fun i hi => ?_, fun i hi => by omega, fun i hi => ?_⟩
    · rw [c 15 3 (by omega) (by omega), p3, q3]
    · match k, hk with
      | 0, _ => rw [c 15 0 (by omega) (by omega), p0]; exact q0.symm
      | 1, _ => rw [c 15 1 (by omega) (by omega), p1]; exact q1.symm
      | 2, _ => rw [c 15 2 (by omega) (by omega), p2]; exact q2.symm
    · rw [c 15 4 (by omega) (by omega), p4]; exact q4.symm
    · rw [c 15 5 (by omega) (by omega), p5]; exact q5.symm
    · rw [c 15 3 (by omega) (by omega), p3, gn_eq (c 15 0 (by omega) (by omega)), gn_of p0 (by omega), nJ_toInt (by omega)]
      omega
    · show gi h' 15 6 = gi h' 84 (6 * 0 + 5)
      rw [c 15 6 (by omega) (by omega), p6]; exact q6.symm
    · rw [gn_eq (c 15 4 (by omega) (by omega)), gn_of p4 (by omega)] at q
      show gi h' 18 i = gi h' 85 (16 * 0 + (2 * i + 1))
      rw [c 18 i (by omega) (by omega), (pc i hi q).2.2, show 16 * 0 + (2 * i + 1) = 2 * i + 1 by omega, (qc i hi q).2]
    · show gi h' 16 i = gi h' 85 (16 * 0 + 2 * i)
      rw [c 16 i (by omega) (by omega), (pc i (by omega) (by omega)).1, show 16 * 0 + 2 * i = 2 * i by omega, (qc i (by omega) (by omega)).1]
    · show gi h' 19 i = gi h' 86 (16 * 0 + 2 * i) ∧ gi h' 20 i = gi h' 86 (16 * 0 + (2 * i + 1))
      rw [c 19 i (by omega) (by omega), c 20 i (by omega) (by omega), (pj i (by omega) (by omega)).1, (pj i (by omega) (by omega)).2, show 16 * 0 + 2 * i = 2 * i by omega, show 16 * 0 + (2 * i + 1) = 2 * i + 1 by omega, (qj i (by omega) (by omega)).1, (qj i (by omega) (by omega)).2]
      exact ⟨rfl, rfl⟩
    · show 1 ≤ gn h' 16 i ∧ gn h' 16 i ≤ gn h' 15 0
      have w := wt i (by omega)
      rw [gn_eq (c 16 i (by omega) (by omega)), gn_of (pc i (by omega) (by omega)).1 (by omega), g0]
      exact w
    · show gn h' 17 i = nwF (gn h' 21) (gn h' 22) (gn h' 23) (gn h' 16) (gn h' 15 6) i
      have w := wt i (by omega)
      rw [g6]
      show gn h' 17 i = gn h' 16 i
      rw [gn_eq (c 16 i (by omega) (by omega)), gn_eq (c 17 i (by omega) (by omega)), gn_of (pc i (by omega) (by omega)).1 (by omega), gn_of (pc i (by omega) (by omega)).2.1 (by omega)]
/-! undo, anew -/
theorem act7 {h : pm_H} (I : IVh h) : ∀ i, i < 20 → ¬ gi h 23 i = 0 → gn h 22 i ≤ 7 := by
  have f := I.2.1 41 (by decide)
  rw [show (41 : Nat) = 21 * 1 + 20 from rfl, fl0_f (f := 1) (j := 20) (by omega) rfl] at f
  intro i hi nz
  have l1 := (ld_gi I.1 (a := 23) (k := i) (q := (0, 1)) (bd_u rfl hi)).1
  have l2 := (ld_gi I.1 (a := 22) (k := i) (q := (0, 8)) (bd_u rfl hi)).1
  have q := f i hi (by omega) (gi h 23 i) (gi h 22 i) (by rw [show 0 + 1 * i = i by omega]; exact l1) (by rw [show 0 + 1 * i = i by omega]; exact l2) (fun z => nz (Int32.toInt_inj.mp z))
  unfold gn
  omega
theorem lnp_0 {h : pm_H} (S : ST1 15 0 h) : gn h 15 0 = 0 ↔ lnp h = 0 := by
  obtain ⟨s1, -, -, -, s5⟩ := S
  rw [s5, s1]
  unfold lnp
  by_cases b : 0 < (gi h 83 0).toInt
  · rw [if_pos b]
    constructor
    · intro q; exact absurd b q
    · intro q; cases q
  · rw [if_neg b]
    exact ⟨fun _ => rfl, fun _ => b⟩
theorem udv_eq {p q a : Nat} (e : p = 0 ↔ q = 0) : udv p a = udv q a ∧ uda p a = uda q a ∧ anv p a = anv q a ∧ ana p a = ana q a := by
  unfold udv uda anv ana
  by_cases b : p = 0
  · have b2 := e.mp b
    rw [if_pos b, if_pos b2, if_pos b, if_pos b2, if_pos b, if_pos b2, if_pos b, if_pos b2]
    exact ⟨rfl, rfl, rfl, rfl⟩
  · have b2 : ¬ q = 0 := fun z => b (e.mpr z)
    rw [if_neg b, if_neg b2, if_neg b, if_neg b2, if_neg b, if_neg b2, if_neg b, if_neg b2]
    exact ⟨rfl, rfl, rfl, rfl⟩
theorem lnp_fr {h h' : pm_H} (e : gi h' 83 0 = gi h 83 0) : lnp h' = lnp h := by unfold lnp; rw [e]
/-- of the street as it is now: all but that its acts are the reference's -/
noncomputable def HF (h : pm_H) : Prop := BN 15 h ∧ TJ 15 0 h ∧ VT 15 h ∧ VA 15 h ∧ NW 15 h
theorem FS_of {h : pm_H} (H : HF h) (a : AC 15 0 (gn h 15 6) h) : FS 15 0 h := ⟨H.1, H.2.1, a, H.2.2.1, H.2.2.2.1, H.2.2.2.2⟩
theorem HF_of {h : pm_H} (F : FS 15 0 h) : HF h := ⟨F.1, F.2.1, F.2.2.2.1, F.2.2.2.2.1, F.2.2.2.2.2⟩
theorem HF_k {h h' : pm_H} (c : ∀ q, q ≤ 8 → q ≠ 3 → ∀ j, gi h' (15 + q) j = gi h (15 + q) j) (e85 : ∀ i, i < 8 → gi h' 85 (2 * i) = gi h 85 (2 * i)) (e86 : ∀ i, i < 16 → gi h' 86 i = gi h 86 i) (S : HF h) : HF h' := by
  have n : ∀ q, q ≤ 8 → q ≠ 3 → gn h' (15 + q) = gn h (15 + q) := fun q h1 h2 => funext (fun j => gn_eq (c q h1 h2 j))
  obtain ⟨b, ⟨t1, t2⟩, vt, va, nw⟩ := S
  have n0 : gn h' 15 = gn h 15 := n 0 (by omega) (by omega)
  have n1 : gn h' 16 = gn h 16 := n 1 (by omega) (by omega)
  have n2 : gn h' 17 = gn h 17 := n 2 (by omega) (by omega)
  have n6 : gn h' 21 = gn h 21 := n 6 (by omega) (by omega)
  have n7 : gn h' 22 = gn h 22 := n 7 (by omega) (by omega)
  have n8 : gn h' 23 = gn h 23 := n 8 (by omega) (by omega)
  have c1 : ∀ j, gi h' 16 j = gi h 16 j := c 1 (by omega) (by omega)
  have c4 : ∀ j, gi h' 19 j = gi h 19 j := c 4 (by omega) (by omega)
  have c5 : ∀ j, gi h' 20 j = gi h 20 j := c 5 (by omega) (by omega)
  obtain ⟨b1, b2, b3⟩ := b
  refine ⟨?_, ⟨fun i hi => ?_, fun i hi => ?_⟩, fun i hi => ?_, fun i hi => ?_, fun i hi => ?_⟩
  · show gn h' 15 4 ≤ 8 ∧ gn h' 15 5 ≤ 8 ∧ gn h' 15 6 ≤ 20
    rw [n0]; exact ⟨b1, b2, b3⟩
  · rw [n0] at hi
    have q := t1 i hi
    show gi h' 16 i = gi h' 85 (16 * 0 + 2 * i)
    rw [show 16 * 0 + 2 * i = 2 * i by omega] at q ⊢
    rw [c1, e85 i (by omega)]; exact q
  · rw [n0] at hi
    have q := t2 i hi
    show gi h' 19 i = gi h' 86 (16 * 0 + 2 * i) ∧ gi h' 20 i = gi h' 86 (16 * 0 + (2 * i + 1))
    rw [show 16 * 0 + 2 * i = 2 * i by omega, show 16 * 0 + (2 * i + 1) = 2 * i + 1 by omega] at q ⊢
    rw [c4, c5, e86 _ (by omega), e86 _ (by omega)]; exact q
  · rw [n0] at hi
    show 1 ≤ gn h' 16 i ∧ gn h' 16 i ≤ gn h' 15 0
    rw [n0, n1]; exact vt i hi
  · rw [n0] at hi
    show vAct (gn h' 15 4) (gn h' 15 0) (gn h' 21) (gn h' 22) (gn h' 23) i
    rw [n0, n6, n7, n8]; exact va i hi
  · rw [n0] at hi
    show gn h' 17 i = nwF (gn h' 21) (gn h' 22) (gn h' 23) (gn h' 16) (gn h' 15 6) i
    rw [n0, n1, n2, n6, n7, n8]; exact nw i hi
/-- acts taken back -/
theorem un_HF {h h' : pm_H} {a : Nat} (F : FS 15 0 h) (f : fr_g KAF h h') (e : gi h' 15 6 = nJ a) (le : a ≤ gn h 15 6) (N : ∀ j, j < gn h 15 4 → gn h' 17 j = nwF (gn h 21) (gn h 22) (gn h 23) (gn h 16) a j) : HF h' ∧ AC 15 0 a h' := by
  obtain ⟨⟨b1, b2, b3⟩, ⟨t1, t2⟩, ac, vt, va, nw⟩ := F
  have e4 : gn h' 15 4 = gn h 15 4 := fr_gn f rfl
  have e5 : gn h' 15 5 = gn h 15 5 := fr_gn f rfl
  have e0 : gn h' 15 0 = gn h 15 0 := fr_gn f rfl
  have e6 : gn h' 15 6 = a := gn_of e (by omega)
  have k16 : ∀ j, gi h' 16 j = gi h 16 j := fun j => fr_gi f (rg_no rfl _)
  have k19 : ∀ j, gi h' 19 j = gi h 19 j := fun j => fr_gi f (rg_no rfl _)
  have k20 : ∀ j, gi h' 20 j = gi h 20 j := fun j => fr_gi f (rg_no rfl _)
  have k21 : ∀ j, gi h' 21 j = gi h 21 j := fun j => fr_gi f (rg_no rfl _)
  have k22 : ∀ j, gi h' 22 j = gi h 22 j := fun j => fr_gi f (rg_no rfl _)
  have k23 : ∀ j, gi h' 23 j = gi h 23 j := fun j => fr_gi f (rg_no rfl _)
  have k85 : ∀ j, gi h' 85 j = gi h 85 j := fun j => fr_gi f (rg_no rfl _)
  have k86 : ∀ j, gi h' 86 j = gi h 86 j := fun j => fr_gi f (rg_no rfl _)
  have k87 : ∀ j, gi h' 87 j = gi h 87 j := fun j => fr_gi f (rg_no rfl _)
  have n16 : gn h' 16 = gn h 16 := funext (fun j => gn_eq (k16 j))
  have n21 : gn h' 21 = gn h 21 := funext (fun j => gn_eq (k21 j))
  have n22 : gn h' 22 = gn h 22 := funext (fun j => gn_eq (k22 j))
  have n23 : gn h' 23 = gn h 23 := funext (fun j => gn_eq (k23 j))
  refine ⟨⟨⟨by omega, by omega, by omega⟩, ⟨fun i hi => ?_, fun i hi => ?_⟩, fun i hi => ?_, fun i hi => ?_, fun i hi => ?_⟩, fun i hi => ?_⟩
  · show gi h' 16 i = gi h' 85 (16 * 0 + 2 * i)
    rw [k16, k85]; exact t1 i (by omega)
  · show gi h' 19 i = gi h' 86 (16 * 0 + 2 * i) ∧ gi h' 20 i = gi h' 86 (16 * 0 + (2 * i + 1))
    rw [k19, k20, k86, k86]; exact t2 i (by omega)
  · show 1 ≤ gn h' 16 i ∧ gn h' 16 i ≤ gn h' 15 0
    rw [n16, e0]; exact vt i (by omega)
  · show vAct (gn h' 15 4) (gn h' 15 0) (gn h' 21) (gn h' 22) (gn h' 23) i
    rw [e4, e0, n21, n22, n23]; exact va i (by omega)
  · show gn h' 17 i = nwF (gn h' 21) (gn h' 22) (gn h' 23) (gn h' 16) (gn h' 15 6) i
    rw [n16, n21, n22, n23, e6]; exact N i (by omega)
  · show gi h' 21 i = gi h' 87 (60 * 0 + (3 * i + 1)) ∧ gi h' 22 i = gi h' 87 (60 * 0 + (3 * i + 2)) ∧ gi h' 23 i = gi h' 87 (60 * 0 + 3 * i)
    rw [k21, k22, k23, k87, k87, k87]; exact ac i (by omega)
noncomputable def WMF : List Rng := [(15, 6, 6), (17, 0, 7), (21, 0, 19), (22, 0, 19), (23, 0, 19), (62, 1, 3), (63, 0, 7)]
theorem gi_g2 {h h' : pm_H} {a k : Nat} {q : Int × Int} (hh : HH h) (hh' : HH h') (hb : bd a k = some q) (h0 : 0 ≤ q.1) (e : gn h' a k = gn h a k) : gi h' a k = gi h a k := by
  rw [gi_gn hh' hb h0, gi_gn hh hb h0, e]
/-- an act more, or none -/
theorem add_HF {h h' : pm_H} {c z t : Nat} {ok : Bool} (hh : HH h) (hh' : HH h') (F : FS 15 0 h) (f : fr_g WMF h h') (V : ok = true → c < gn h 15 4 ∧ ((t = 0 ∧ 1 ≤ z ∧ z ≤ gn h 15 0) ∨ (t = 1 ∧ z < gn h 15 4))) (X : WX ok h h' (gn h 15 6) c z t) : HF h' ∧ AC 15 0 (gn h 15 6) h' ∧ (gn h' 15 6 = gn h 15 6 ∨ (gn h' 15 6 = gn h 15 6 + 1 ∧ gi h' 21 (gn h 15 6) = nJ c ∧ gi h' 22 (gn h 15 6) = nJ z ∧ gi h' 23 (gn h 15 6) = nJ t)) := by
  obtain ⟨⟨b1, b2, b3⟩, ⟨t1, t2⟩, ac, vt, va, nw⟩ := F
  have e4 : gn h' 15 4 = gn h 15 4 := fr_gn f rfl
  have e5 : gn h' 15 5 = gn h 15 5 := fr_gn f rfl
  have e0 : gn h' 15 0 = gn h 15 0 := fr_gn f rfl
  have k16 : ∀ j, gi h' 16 j = gi h 16 j := fun j => fr_gi f (rg_no rfl _)
  have k19 : ∀ j, gi h' 19 j = gi h 19 j := fun j => fr_gi f (rg_no rfl _)
  have k20 : ∀ j, gi h' 20 j = gi h 20 j := fun j => fr_gi f (rg_no rfl _)
  have k85 : ∀ j, gi h' 85 j = gi h 85 j := fun j => fr_gi f (rg_no rfl _)
  have k86 : ∀ j, gi h' 86 j = gi h 86 j := fun j => fr_gi f (rg_no rfl _)
  have k87 : ∀ j, gi h' 87 j = gi h 87 j := fun j => fr_gi f (rg_no rfl _)
  have n16 : gn h' 16 = gn h 16 := funext (fun j => gn_eq (k16 j))
  have tj : TJ 15 0 h' := ⟨fun i hi => by
    show gi h' 16 i = gi h' 85 (16 * 0 + 2 * i)
    rw [k16, k85]; exact t1 i (by omega), fun i hi => by
    show gi h' 19 i = gi h' 86 (16 * 0 + 2 * i) ∧ gi h' 20 i = gi h' 86 (16 * 0 + (2 * i + 1))
    rw [k19, k20, k86, k86]; exact t2 i (by omega)⟩
  have vt' : VT 15 h' := fun i hi => by
    show 1 ≤ gn h' 16 i ∧ gn h' 16 i ≤ gn h' 15 0
    rw [n16, e0]; exact vt i (by omega)
  have ac' : (∀ i, i < gn h 15 6 → gn h' 21 i = gn h 21 i ∧ gn h' 22 i = gn h 22 i ∧ gn h' 23 i = gn h 23 i) → AC 15 0 (gn h 15 6) h' := fun g i hi => by
    obtain ⟨g1, g2, g3⟩ := g i hi
    show gi h' 21 i = gi h' 87 (60 * 0 + (3 * i + 1)) ∧ gi h' 22 i = gi h' 87 (60 * 0 + (3 * i + 2)) ∧ gi h' 23 i = gi h' 87 (60 * 0 + 3 * i)
    rw [k87, k87, k87, gi_g2 hh hh' (bd_u rfl (by omega)) (by decide) g1, gi_g2 hh hh' (bd_u rfl (by omega)) (by decide) g2, gi_g2 hh hh' (bd_u rfl (by omega)) (by decide) g3]
    exact ac i hi
  by_cases b : ok = true ∧ gn h 15 6 < 20
  · obtain ⟨w6, w1, w2, w3, w4⟩ := X.1 b
    have v := V b.1
    have e6 : gn h' 15 6 = gn h 15 6 + 1 := gn_of w6 (by omega)
    have vK : vAct (gn h 15 4) (gn h 15 0) (fup (gn h 21) (gn h 15 6) c) (fup (gn h 22) (gn h 15 6) z) (fup (gn h 23) (gn h 15 6) t) (gn h 15 6) := by
      unfold vAct
      rw [fup_s, fup_s, fup_s]
      exact v
    refine ⟨⟨⟨by omega, by omega, by omega⟩, tj, vt', fun i hi => ?_, fun i hi => ?_⟩, ac' (fun i hi => by rw [w1, w2, w3, fup_n (by omega), fup_n (by omega), fup_n (by omega)]; exact ⟨rfl, rfl, rfl⟩), .inr ⟨e6, ?_, ?_, ?_⟩⟩
    · show vAct (gn h' 15 4) (gn h' 15 0) (gn h' 21) (gn h' 22) (gn h' 23) i
      rw [e4, e0, w1, w2, w3]
      by_cases q : i = gn h 15 6
      · rw [q]; exact vK
      · have o := va i (by omega)
        unfold vAct at o ⊢
        rw [fup_n q, fup_n q, fup_n q]
        exact o
    · show gn h' 17 i = nwF (gn h' 21) (gn h' 22) (gn h' 23) (gn h' 16) (gn h' 15 6) i
      rw [w4, w1, w2, w3, e6, n16]
      exact dAct_cg rfl rfl rfl vK (fun j hj => (nw j hj).trans (nwF_cg (gn h 15 6) (fun q hq => ⟨fup_n (by omega), fup_n (by omega), fup_n (by omega)⟩) va (fun _ _ => rfl) j hj).symm) i (by omega)
    · rw [gi_gn hh' (q := (0, 7)) (bd_u rfl (by omega)) (by decide), w1, fup_s]
    · rw [gi_gn hh' (q := (0, 8)) (bd_u rfl (by omega)) (by decide), w2, fup_s]
    · rw [gi_gn hh' (q := (0, 1)) (bd_u rfl (by omega)) (by decide), w3, fup_s]
  · obtain ⟨w6, w1, w2, w3, w4⟩ := X.2 b
    have e6 : gn h' 15 6 = gn h 15 6 := gn_eq w6
    refine ⟨⟨⟨by omega, by omega, by omega⟩, tj, vt', fun i hi => ?_, fun i hi => ?_⟩, ac' (fun i hi => by rw [w1, w2, w3]; exact ⟨rfl, rfl, rfl⟩), .inl e6⟩
    · show vAct (gn h' 15 4) (gn h' 15 0) (gn h' 21) (gn h' 22) (gn h' 23) i
      rw [e4, e0, w1, w2, w3]; exact va i (by omega)
    · show gn h' 17 i = nwF (gn h' 21) (gn h' 22) (gn h' 23) (gn h' 16) (gn h' 15 6) i
      rw [w4, w1, w2, w3, e6, n16]; exact nw i (by omega)
/-- between: all but the acts, which are told -/
noncomputable def half_ac (h : pm_H) (a : Nat) : Prop := RES h ∧ IMG h ∧ ST1 15 0 h ∧ STD 15 0 h ∧ gi h 15 6 = nJ a ∧ HF h
theorem ac_8 {M : List Rng} {h h' : pm_H} {a : Nat} (R : QRE h) (hf : fr_g M h h') (hb : resB M = true) (hi : imB M = true) (hr : rwB M = true) (h1 : ∀ k, k ≤ 5 → rg_in M 15 k = false) (h2 : M.all (fun r => !(Nat.beq r.1 18)) = true) (e : gi h' 15 6 = nJ a) (H : HF h') : half_ac h' a := by
  have k9 : ∀ r, KE9 r h h' := KE9_fr hf hr
  refine ⟨RES_fr hf hb R.1, IMG_fr hf hi (fun r _ _ => k9 r) R.2.2, ST1_k (fun k hk => fr_gi hf (h1 k hk)) (k9 0).1 (fun k hk => ?_) R.2.1.1, STD_k (fr_gi hf (h1 4 (by omega))) (fun i => fr_gi hf (rg_no h2 _)) (fun i hi => ?_) R.2.1.2.2.1, e, H⟩
  · have := (k9 0).2.1 k (by omega)
    rw [show 6 * 0 + k = k by omega] at this
    exact this
  · have := (k9 0).2.2.1 i hi
    rw [show 16 * 0 + i = i by omega] at this
    exact this
theorem ac_9 {M : List Rng} {h h' : pm_H} {a : Nat} (J : half_ac h a) (hf : fr_g M h h') (hb : resB M = true) (hc : clB M = true) (s : SAM h h') (e86 : ∀ k, gi h' 86 k = gi h 86 k) (e87 : ∀ k, 60 ≤ k → gi h' 87 k = gi h 87 k) (e : gi h' 84 5 = nJ a) (A : AC 15 0 (gn h 15 6) h') : QRE h' := by
  obtain ⟨j1, j2, j3, j4, j5, j6⟩ := J
  have c : ∀ k, gi h' 15 k = gi h 15 k := fun k => fr_gi hf (rg_no (nc_at hc (by decide)) _)
  have im : imB M = true := by
    unfold clB at hc
    unfold imB
    rw [List.all_eq_true] at hc ⊢
    intro x hx
    exact hc x (by revert x; decide)
  have k9 : ∀ r, 1 ≤ r → r ≤ 3 → KE9 r h h' := fun r h1 _ => ⟨s 83 r (.inl rfl), fun k _ => s 84 _ (.inr (.inr ⟨rfl, by omega⟩)), fun k _ => s 85 _ (.inr (.inl rfl)), fun k _ => e86 _, fun k _ => e87 _ (by omega)⟩
  refine ⟨RES_fr hf hb j1, ⟨ST1_k (fun k _ => c k) (s 83 0 (.inl rfl)) (fun k hk => s 84 k (.inr (.inr ⟨rfl, by omega⟩))) j3, ?_, STD_k (c 4) (fun i => fr_gi hf (rg_no (nc_at hc (by decide)) _)) (fun i _ => s 85 i (.inr (.inl rfl))) j4, FS_of (HF_k (fun q hq _ j => KEE_15 hf hc q hq j) (fun i _ => s 85 _ (.inr (.inl rfl))) (fun i _ => e86 i) j6) (by rw [gn_eq (c 6)]; exact A)⟩, IMG_fr hf im k9 j2⟩
  show gi h' 15 6 = gi h' 84 (6 * 0 + 5)
  rw [c 6, j5]
  exact e.symm
theorem sam_fr {h h' : pm_H} (hf : fr_g [(77, 0, 0), (84, 5, 5)] h h') : SAM h h' := fun a k q => by
  rcases q with rfl | rfl | ⟨rfl, hk⟩
  · exact fr_gi hf (rg_no rfl _)
  · exact fr_gi hf (rg_no rfl _)
  · refine fr_gi hf ?_
    show (Nat.beq 77 84 && (Nat.ble 0 k && Nat.ble k 0) || (Nat.beq 84 84 && (Nat.ble 5 k && Nat.ble k 5) || false)) = false
    have : (Nat.ble 5 k && Nat.ble k 5) = false := by
      cases q : (Nat.ble 5 k && Nat.ble k 5) with
      | false => rfl
      | true =>
        rw [Bool.and_eq_true, nble, nble] at q
        omega
    rw [this]
    rfl
theorem fr_rf_ac {h h' : pm_H} (f : fr_g [(77, 0, 0), (84, 5, 5)] h h') : ∀ a k, a = 21 ∨ a = 22 ∨ a = 23 ∨ a = 87 → gi h' a k = gi h a k := fun a k q => by
  rcases q with rfl | rfl | rfl | rfl <;> exact fr_gi f (rg_no rfl _)
theorem AC_87 {h h' : pm_H} {n : Nat} (e : ∀ a k, a = 21 ∨ a = 22 ∨ a = 23 ∨ a = 87 → gi h' a k = gi h a k) (A : AC 15 0 n h) : AC 15 0 n h' := fun i hi => by
  show gi h' 21 i = gi h' 87 (60 * 0 + (3 * i + 1)) ∧ gi h' 22 i = gi h' 87 (60 * 0 + (3 * i + 2)) ∧ gi h' 23 i = gi h' 87 (60 * 0 + 3 * i)
  rw [e 21 i (by omega), e 22 i (by omega), e 23 i (by omega), e 87 _ (by omega), e 87 _ (by omega), e 87 _ (by omega)]
  exact A i hi
section UNQ
variable {h : pm_H} {x : Int32}
noncomputable def half_unQ (h : pm_H) (x : Int32) : Prop := (half_ac h (uda (lnp h) (gn h 84 5)) ∧ AC 15 0 (uda (lnp h) (gn h 84 5)) h) ∧ x = udv (lnp h) (gn h 84 5)
noncomputable def half_anQ (h : pm_H) (x : Int32) : Prop := (half_ac h (ana (lnp h) (gn h 84 5)) ∧ AC 15 0 (ana (lnp h) (gn h 84 5)) h) ∧ x = anv (lnp h) (gn h 84 5)
theorem uda_le {p a : Nat} : uda p a ≤ a := by unfold uda; split <;> omega
theorem ana_le {p a : Nat} : ana p a ≤ a := by unfold ana; split <;> omega
theorem acts_eq (R : QRE h) : gn h 15 6 = gn h 84 5 := gn_eq (show gi h 15 6 = gi h 84 5 from R.2.1.2.1)
theorem g8_undo (I : IVQ h) : Sp 100 195 h [.ref 0] (fun h' r => IVh h' ∧ ∃ x : Int32, r = some (.int x) ∧ half_unQ h' x) := by
  refine Sp_le (by omega) (Sp_mono ?_ (Sp_and (top_all (as := [.ref 0]) q878 (by decide +kernel) I.1 ⟨rfl, trivial⟩) (sp_undo8X (d := 0) I.1.1 I.2.2.1.2.2.2.2.2.2.2.1 I.2.2.1.2.2.2.2.2.2.2.2)))
  rintro h' r ⟨⟨s1, s2, -⟩, rfl, g6, ka, nw⟩
  have u := udv_eq (a := gn h 84 5) (lnp_0 I.2.2.1.1)
  have e1 : lnp h' = lnp h := lnp_fr (fr_gi s2 (rg_no rfl _))
  have e2 : gn h' 84 5 = gn h 84 5 := fr_gn s2 (rg_no rfl _)
  obtain ⟨H, A⟩ := un_HF I.2.2.1.2.2.2 ka g6 uda_le nw
  rw [acts_eq I.2, u.2.1] at g6 A
  refine ⟨s1, _, rfl, ⟨ac_8 I.2 s2 rfl rfl rfl (fun k hk => ?_) rfl (by rw [e1, e2]; exact g6) H, by rw [e1, e2]; exact A⟩, by rw [e1, e2, acts_eq I.2, u.1]⟩
  match k, hk with
  | 0, _ => rfl
  | 1, _ => rfl
  | 2, _ => rfl
  | 3, _ => rfl
  | 4, _ => rfl
  | 5, _ => rfl
theorem g9_undo (I : IVh h) (J : half_unQ h x) : Sp 100 366 h [.ref 77] (fun h' r => IVQ h' ∧ r = some (.int x)) := by
  refine Sp_le (by omega) (Sp_mono ?_ (Sp_and (tv_undo (d := 0) I.1 I.2.2) (sp_undo9 (d := 0) I.1)))
  rintro h' r ⟨⟨a1, a2, a3, -⟩, rfl, -, f9, g9⟩
  obtain ⟨J1, rfl⟩ := J
  exact ⟨⟨IVh_fr (M := VM) (by decide +kernel) a2 a1 I a3, ac_9 J1.1 f9 rfl rfl (sam_fr f9) (fun k => fr_gi f9 (rg_no rfl _)) (fun k _ => fr_gi f9 (rg_no rfl _)) g9 (AC_87 (fr_rf_ac f9) (by rw [gn_of J1.1.2.2.2.2.1 (by have := (g84 I.1).2.1; have := @uda_le (lnp h) (gn h 84 5); omega)]; exact J1.2))⟩, rfl⟩
theorem g8_anew (I : IVQ h) : Sp 100 79 h [.ref 0] (fun h' r => IVh h' ∧ ∃ x : Int32, r = some (.int x) ∧ half_anQ h' x) := by
  refine Sp_le (by omega) (Sp_mono ?_ (Sp_and (top_all (as := [.ref 0]) q881 (by decide +kernel) I.1 ⟨rfl, trivial⟩) (sp_anew8X (p := 0) (d := 0) I.1.1 I.2.2.1.2.2.2.2.2.2.2.2)))
  rintro h' r ⟨⟨s1, s2, -⟩, rfl, g6, ka, nw⟩
  have u := udv_eq (a := gn h 84 5) (lnp_0 I.2.2.1.1)
  have e1 : lnp h' = lnp h := lnp_fr (fr_gi s2 (rg_no rfl _))
  have e2 : gn h' 84 5 = gn h 84 5 := fr_gn s2 (rg_no rfl _)
  obtain ⟨H, A⟩ := un_HF I.2.2.1.2.2.2 ka g6 ana_le nw
  rw [acts_eq I.2, u.2.2.2] at g6 A
  refine ⟨s1, _, rfl, ⟨ac_8 I.2 s2 rfl rfl rfl (fun k hk => ?_) rfl (by rw [e1, e2]; exact g6) H, by rw [e1, e2]; exact A⟩, by rw [e1, e2, acts_eq I.2, u.2.2.1]⟩
  match k, hk with
  | 0, _ => rfl
  | 1, _ => rfl
  | 2, _ => rfl
  | 3, _ => rfl
  | 4, _ => rfl
  | 5, _ => rfl
theorem g9_anew (I : IVh h) (J : half_anQ h x) : Sp 100 207 h [.ref 77] (fun h' r => IVQ h' ∧ r = some (.int x)) := by
  refine Sp_le (by omega) (Sp_mono ?_ (Sp_and (tv_anew (d := 0) I.1 I.2.2) (sp_anew9 (d := 0) I.1)))
  rintro h' r ⟨⟨a1, a2, a3, -⟩, rfl, -, f9, g9⟩
  obtain ⟨J1, rfl⟩ := J
  exact ⟨⟨IVh_fr (M := VM) (by decide +kernel) a2 a1 I a3, ac_9 J1.1 f9 rfl rfl (sam_fr f9) (fun k => fr_gi f9 (rg_no rfl _)) (fun k _ => fr_gi f9 (rg_no rfl _)) g9 (AC_87 (fr_rf_ac f9) (by rw [gn_of J1.1.2.2.2.2.1 (by have := (g84 I.1).2.1; have := @ana_le (lnp h) (gn h 84 5); omega)]; exact J1.2))⟩, rfl⟩
end UNQ
section WNQ
variable {h : pm_H} {v w : Int32}
noncomputable def wq (h : pm_H) (v w : Int32) : Nat := wna (bif decide (0 < (gi h 83 0).toInt) then okW (gn h 84 3) (gn h 84 0) v w else false) (gn h 84 5)
noncomputable def tq (h : pm_H) (v w : Int32) : Nat := wna (okT (gn h 84 3) v w) (gn h 84 5)
theorem wq_eq (R : QRE h) : wna (okW (gn h 15 4) (gn h 15 0) v w) (gn h 15 6) = wq h v w := by
  obtain ⟨s1, s2, s3, s4, s5⟩ := R.2.1.1
  have e4 : gn h 15 4 = gn h 84 3 := gn_eq s3
  have e0 : gn h 15 0 = gn h 84 0 := gn_eq (s2 0 (by omega))
  unfold wq
  rw [acts_eq R, e4, e0]
  rw [e0, s1] at s5
  by_cases b : 0 < (gi h 83 0).toInt
  · rw [decide_eq_true b]; rfl
  · have p0 := s5.mpr b
    rw [decide_eq_false b]
    have : okW (gn h 84 3) (gn h 84 0) v w = false := decide_eq_false (fun q => by have := q.2; rw [p0] at this; omega)
    rw [this]
    rfl
theorem tq_eq (R : QRE h) : wna (okT (gn h 15 4) v w) (gn h 15 6) = tq h v w := by
  obtain ⟨s1, s2, s3, s4, s5⟩ := R.2.1.1
  have e4 : gn h 15 4 = gn h 84 3 := gn_eq s3
  unfold tq
  rw [acts_eq R, e4]
/-- between, of an act: the reference has not done it yet -/
noncomputable def half_w (h : pm_H) (a : Nat) (v w : Int32) (t : Nat) : Prop := half_ac h a ∧ AC 15 0 (gn h 84 5) h ∧ (gn h 15 6 = gn h 84 5 ∨ (gn h 15 6 = gn h 84 5 + 1 ∧ gi h 21 (gn h 84 5) = nJ v.toInt.toNat ∧ gi h 22 (gn h 84 5) = nJ w.toInt.toNat ∧ gi h 23 (gn h 84 5) = nJ t))
theorem okW_v {c p : Nat} (c8 : c ≤ 8) (p8 : p ≤ 8) (e : okW c p v w = true) : v.toInt.toNat < c ∧ (((0 : Nat) = 0 ∧ 1 ≤ w.toInt.toNat ∧ w.toInt.toNat ≤ p) ∨ ((0 : Nat) = 1 ∧ w.toInt.toNat < c)) := by
  obtain ⟨q1, q2⟩ := of_decide_eq_true e
  exact ⟨by omega, .inl ⟨rfl, by omega, by omega⟩⟩
theorem okT_v {c p : Nat} (c8 : c ≤ 8) (e : okT c v w = true) : v.toInt.toNat < c ∧ (((1 : Nat) = 0 ∧ 1 ≤ w.toInt.toNat ∧ w.toInt.toNat ≤ p) ∨ ((1 : Nat) = 1 ∧ w.toInt.toNat < c)) := by
  obtain ⟨q1, q2, -⟩ := of_decide_eq_true e
  exact ⟨by omega, .inr ⟨rfl, by omega⟩⟩
theorem w_9 {h h' : pm_H} {M : List Rng} {a t : Nat} (hh : HH h) (hh' : HH h') (J : half_w h a v w t) (a20 : a ≤ 20) (hf : fr_g M h h') (hb : resB M = true) (hc : clB M = true) (s : SAM h h') (e86 : ∀ k, gi h' 86 k = gi h 86 k) (e : gi h' 84 5 = nJ a) (D : AD9 h h' t v.toInt.toNat w.toInt.toNat) : QRE h' := by
  obtain ⟨J1, A, B⟩ := J
  have K := g84 hh
  have k20 := (g84 hh').2.1
  have e6 : gn h 15 6 = a := gn_of J1.2.2.2.2.1 (by omega)
  have c : ∀ q, q ≤ 8 → ∀ j, gi h' (15 + q) j = gi h (15 + q) j := KEE_15 hf hc
  have c6 : ∀ j, gi h' 21 j = gi h 21 j := c 6 (by omega)
  have c7 : ∀ j, gi h' 22 j = gi h 22 j := c 7 (by omega)
  have c8 : ∀ j, gi h' 23 j = gi h 23 j := c 8 (by omega)
  rcases D with ⟨d1, d2⟩ | ⟨d1, d2, d3, d4, d5⟩
  · have ea : a = gn h 84 5 := by
      have q : nJ a = nJ (gn h 84 5) := by rw [← e, d1]; exact K.1
      exact (nJ_eq (by omega) (by omega)).mp q
    refine ac_9 J1 hf hb hc s e86 (fun k _ => d2 k) e (AC_87 (fun b k q => ?_) (by rw [e6, ea]; exact A))
    rcases q with rfl | rfl | rfl | rfl
    · exact c6 k
    · exact c7 k
    · exact c8 k
    · exact d2 k
  · have ea : a = gn h 84 5 + 1 := (nJ_eq (by omega) (by omega)).mp (by rw [← e, d1])
    have g5 : gn h' 84 5 = gn h 84 5 + 1 := gn_of d1 (by omega)
    rcases B with B | ⟨B1, B2, B3, B4⟩
    · omega
    refine ac_9 J1 hf hb hc s e86 (fun k hk => d5 k (by omega) (by omega) (by omega)) e (fun i hi => ?_)
    rw [B1] at hi
    show gi h' 21 i = gi h' 87 (60 * 0 + (3 * i + 1)) ∧ gi h' 22 i = gi h' 87 (60 * 0 + (3 * i + 2)) ∧ gi h' 23 i = gi h' 87 (60 * 0 + 3 * i)
    rw [c6, c7, c8, show 60 * 0 + (3 * i + 1) = 3 * i + 1 by omega, show 60 * 0 + (3 * i + 2) = 3 * i + 2 by omega, show 60 * 0 + 3 * i = 3 * i by omega]
    by_cases q : i = gn h 84 5
    · rw [q, B2, B3, B4, d2, d3, d4]; exact ⟨rfl, rfl, rfl⟩
    · have o := A i (by omega)
      rw [show 60 * 0 + (3 * i + 1) = 3 * i + 1 by omega, show 60 * 0 + (3 * i + 2) = 3 * i + 2 by omega, show 60 * 0 + 3 * i = 3 * i by omega] at o
      rw [d5 _ (by omega) (by omega) (by omega), d5 _ (by omega) (by omega) (by omega), d5 _ (by omega) (by omega) (by omega)]
      exact o
theorem wna_le {ok : Bool} {a : Nat} (h : a ≤ 20) : wna ok a ≤ 20 := by
  unfold wna
  cases ok
  · exact h
  · show (if a < 20 then a + 1 else a) ≤ 20
    split <;> omega
theorem g8_wants (I : IVQ h) : Sp 100 198 h [.ref 0, .int v, .int w] (fun h' r => IVh h' ∧ ∃ x : Int32, r = some (.int x) ∧ half_w h' (wq h' v w) v w 0) := by
  refine Sp_le (by omega) (Sp_mono ?_ (Sp_and (top_all (as := [.ref 0, .int v, .int w]) q868 (by decide +kernel) I.1 ⟨rfl, aI _, aI _, trivial⟩) (Sp_and (sp_wants8 (d := 0) I.1.1) (sp_wants8X (d := 0) I.1.1))))
  rintro h' r ⟨⟨s1, s2, -⟩, ⟨⟨x, rfl⟩, g6⟩, -, wx⟩
  obtain ⟨-, b0, -, b4, -⟩ := g15 I.1.1
  obtain ⟨H, A, B⟩ := add_HF I.1.1 s1.1 I.2.2.1.2.2.2 s2 (fun e => okW_v b4 b0 e) wx
  rw [acts_eq I.2] at A B
  rw [wq_eq I.2] at g6
  have e1 : gi h' 83 0 = gi h 83 0 := fr_gi s2 (rg_no rfl _)
  have e2 : ∀ k, gn h' 84 k = gn h 84 k := fun k => fr_gn s2 (rg_no rfl _)
  refine ⟨s1, x, rfl, ac_8 I.2 s2 rfl rfl rfl (fun k hk => ?_) rfl (by unfold wq at g6 ⊢; rw [e1, e2, e2, e2]; exact g6) H, by rw [e2]; exact ⟨A, B⟩⟩
  match k, hk with
  | 0, _ => rfl
  | 1, _ => rfl
  | 2, _ => rfl
  | 3, _ => rfl
  | 4, _ => rfl
  | 5, _ => rfl
theorem g9_wants (I : IVh h) (J : half_w h (wq h v w) v w 0) : Sp 100 370 h [.ref 77, .int v, .int w] (fun h' r => IVQ h' ∧ ∃ x : Int32, r = some (.int x)) := by
  refine Sp_le (by omega) (Sp_mono ?_ (Sp_and (tv_wantsE (d := 0) I.1 I.2.2) (tv_wantsX (d := 0) I.1 I.2.2)))
  rintro h' r ⟨⟨⟨a1, a2, a3, a4⟩, s, g9⟩, -, e86, ad⟩
  exact ⟨⟨IVh_fr (M := VM) (by decide +kernel) a2 a1 I a3, w_9 I.1 a1 J (wna_le (g84 I.1).2.1) a2 rfl rfl s e86 g9 ad⟩, a4⟩
theorem g8_trades (I : IVQ h) : Sp 100 191 h [.ref 0, .int v, .int w] (fun h' r => IVh h' ∧ ∃ x : Int32, r = some (.int x) ∧ half_w h' (tq h' v w) v w 1) := by
  refine Sp_le (by omega) (Sp_mono ?_ (Sp_and (top_all (as := [.ref 0, .int v, .int w]) q873 (by decide +kernel) I.1 ⟨rfl, aI _, aI _, trivial⟩) (Sp_and (sp_trades8 (d := 0) I.1.1) (sp_trades8X (d := 0) I.1.1))))
  rintro h' r ⟨⟨s1, s2, -⟩, ⟨⟨x, rfl⟩, g6⟩, -, wx⟩
  obtain ⟨-, b0, -, b4, -⟩ := g15 I.1.1
  obtain ⟨H, A, B⟩ := add_HF I.1.1 s1.1 I.2.2.1.2.2.2 s2 (fun e => okT_v b4 e) wx
  rw [acts_eq I.2] at A B
  rw [tq_eq I.2] at g6
  have e2 : ∀ k, gn h' 84 k = gn h 84 k := fun k => fr_gn s2 (rg_no rfl _)
  refine ⟨s1, x, rfl, ac_8 I.2 s2 rfl rfl rfl (fun k hk => ?_) rfl (by unfold tq at g6 ⊢; rw [e2, e2]; exact g6) H, by rw [e2]; exact ⟨A, B⟩⟩
  match k, hk with
  | 0, _ => rfl
  | 1, _ => rfl
  | 2, _ => rfl
  | 3, _ => rfl
  | 4, _ => rfl
  | 5, _ => rfl
theorem g9_trades (I : IVh h) (J : half_w h (tq h v w) v w 1) : Sp 100 362 h [.ref 77, .int v, .int w] (fun h' r => IVQ h' ∧ ∃ x : Int32, r = some (.int x)) := by
  refine Sp_le (by omega) (Sp_mono ?_ (Sp_and (tv_tradesE (d := 0) I.1 I.2.2) (tv_tradesX (d := 0) I.1 I.2.2)))
  rintro h' r ⟨⟨⟨a1, a2, a3, a4⟩, s, g9⟩, -, e86, ad⟩
  exact ⟨⟨IVh_fr (M := VM) (by decide +kernel) a2 a1 I a3, w_9 I.1 a1 J (wna_le (g84 I.1).2.1) a2 rfl rfl s e86 g9 ad⟩, a4⟩
end WNQ
/-! rate, count -/
section RTQ
variable {h : pm_H} {x v w : Int32}
noncomputable def half_rtQ (h : pm_H) (x v w : Int32) : Prop := RES h ∧ IMG h ∧ ST1 15 0 h ∧ STA 15 0 h ∧ (∀ i, i < 8 → i < gn h 15 4 → gi h 18 i = rts (gn h 84 3) (gn h 84 5) (fun i => gi h 85 (2 * i + 1)) v w i) ∧ FS 15 0 h ∧ x = rtv (gn h 84 3) (gn h 84 5) (fun i => gi h 85 (2 * i + 1)) v w
theorem rt_eq {c a : Nat} {s s' : Nat → Int32} (c8 : c ≤ 8) (e : ∀ i, i < 8 → i < c → s i = s' i) : rtv c a s v w = rtv c a s' v w ∧ ∀ i, i < 8 → i < c → rts c a s v w i = rts c a s' v w i := by
  constructor
  · unfold rtv
    by_cases q : (0 ≤ v.toInt ∧ v.toInt < (c : Int)) ∧ 0 ≤ w.toInt ∧ w.toInt ≤ 99
    · rw [if_pos q, if_pos q, e _ (by omega) (by omega)]
    · rw [if_neg q, if_neg q]
  · intro i h1 h2
    unfold rts
    rw [e i h1 h2]
theorem g8_rate (I : IVQ h) : Sp 100 164 h [.ref 0, .int v, .int w] (fun h' r => IVh h' ∧ ∃ x : Int32, r = some (.int x) ∧ half_rtQ h' x v w) := by
  refine Sp_le (by omega) (Sp_mono ?_ (Sp_and (top_all (as := [.ref 0, .int v, .int w]) q895 (by decide +kernel) I.1 ⟨rfl, aI _, aI _, trivial⟩) (sp_rate8 (d := 0) I.1.1)))
  rintro h' r ⟨⟨s1, s2, -⟩, rfl, g18⟩
  obtain ⟨-, -, -, c8, -⟩ := g15 I.1.1
  have k9 : ∀ r, KE9 r h h' := KE9_fr s2 rfl
  have c15 : ∀ k, gi h' 15 k = gi h 15 k := fun k => fr_gi s2 (rg_no rfl _)
  have r84 : ∀ k, gi h' 84 k = gi h 84 k := fun k => fr_gi s2 (rg_no rfl _)
  have r85 : ∀ k, gi h' 85 k = gi h 85 k := fun k => fr_gi s2 (rg_no rfl _)
  have e4 : gn h 15 4 = gn h 84 3 := gn_eq I.2.2.1.1.2.2.1
  have f85 : (fun i => gi h' 85 (2 * i + 1)) = fun i => gi h 85 (2 * i + 1) := funext (fun i => r85 _)
  have se : ∀ i, i < 8 → i < gn h 15 4 → gi h 18 i = (fun i => gi h 85 (2 * i + 1)) i := fun i h1 h2 => by
    have := I.2.2.1.2.2.1 i h1 h2
    rw [show 16 * 0 + (2 * i + 1) = 2 * i + 1 by omega] at this
    exact this
  have rt := rt_eq (a := gn h 15 6) (v := v) (w := w) c8 se
  refine ⟨s1, _, rfl, RES_fr s2 rfl I.2.1, IMG_fr s2 rfl (fun r _ _ => k9 r) I.2.2.2, ST1_k (fun k _ => c15 k) (k9 0).1 (fun k _ => r84 k) I.2.2.1.1, ?_, fun i h1 h2 => ?_, FS_of (HF_k (fun q hq q3 j => fr_gi s2 (rg_no ((show ∀ q : Fin 9, q.val ≠ 3 → S895.2.2.2.2.1.all (fun r => !(Nat.beq r.1 (15 + q.val))) = true from by decide) ⟨q, by omega⟩ q3) _)) (fun i _ => r85 _) (fun i _ => fr_gi s2 (rg_no rfl _)) (HF_of I.2.2.1.2.2.2)) (by rw [gn_eq (c15 6)]; exact AC_87 (fun a k q => by rcases q with rfl | rfl | rfl | rfl <;> exact fr_gi s2 (rg_no rfl _)) I.2.2.1.2.2.2.2.2.1), ?_⟩
  · show gi h' 15 6 = gi h' 84 (6 * 0 + 5)
    rw [c15, r84]; exact I.2.2.1.2.1
  · rw [gn_eq (c15 4)] at h2
    rw [g18 i, rt.2 i h1 h2, f85, gn_eq (r84 3), gn_eq (r84 5), e4, acts_eq I.2]
  · rw [rt.1, f85, gn_eq (r84 3), gn_eq (r84 5), e4, acts_eq I.2]
theorem g9_rate (I : IVh h) (J : half_rtQ h x v w) : Sp 100 329 h [.ref 77, .int v, .int w] (fun h' r => IVQ h' ∧ r = some (.int x)) := by
  refine Sp_le (by omega) (Sp_mono ?_ (Sp_and (tv_rate (d := 0) I.1 I.2.2) (Sp_and (sp_rate9 (d := 0) I.1) (sp_rate9X (d := 0) I.1))))
  rintro h' r ⟨⟨a1, a2, a3, -⟩, ⟨rfl, -, f9, g9⟩, -, ev⟩
  obtain ⟨j1, j2, j3, j4, j5, j6, rfl⟩ := J
  have c15 : ∀ k, gi h' 15 k = gi h 15 k := fun k => fr_gi f9 (rg_no rfl _)
  have r84 : ∀ k, gi h' 84 k = gi h 84 k := fun k => fr_gi f9 (rg_no rfl _)
  have e83 : ∀ k, gi h' 83 k = gi h 83 k := fun k => fr_gi f9 (rg_no rfl _)
  have k9 : ∀ r, 1 ≤ r → r ≤ 3 → KE9 r h h' := fun r h1 h2 => ⟨e83 r, fun k _ => r84 _, fun k _ => fr_gi f9 (by
    cases q : rg_in [(77, 0, 0), (85, 1, 15)] 85 (16 * r + k) with
    | false => rfl
    | true =>
      obtain ⟨z, hz, hc⟩ := List.any_eq_true.mp q
      simp only [Bool.and_eq_true] at hc
      have c1 := Nat.eq_of_beq_eq_true hc.1
      have c3 := Nat.le_of_ble_eq_true hc.2.2
      simp only [List.mem_cons, List.not_mem_nil, or_false] at hz
      rcases hz with rfl | rfl
      · cases c1
      · have c3 : 16 * r + k ≤ 15 := c3
        omega), fun k _ => fr_gi f9 (rg_no rfl _), fun k _ => fr_gi f9 (rg_no rfl _)⟩
  have ce : ∀ q, q ≤ 8 → ∀ j, gi h' (15 + q) j = gi h (15 + q) j := KEE_15 f9 rfl
  refine ⟨⟨IVh_fr (M := VM) (by decide +kernel) a2 a1 I a3, RES_fr f9 rfl j1, ⟨ST1_k (fun k _ => c15 k) (e83 0) (fun k _ => r84 k) j3, ?_, fun i h1 h2 => ?_, FS_of (HF_k (fun q hq _ j => ce q hq j) (fun i _ => ev i) (fun i _ => fr_gi f9 (rg_no rfl _)) (HF_of j6)) (by rw [gn_eq (c15 6)]; exact AC_87 (fun a k q => by rcases q with rfl | rfl | rfl | rfl <;> exact fr_gi f9 (rg_no rfl _)) j6.2.2.1)⟩, IMG_fr f9 rfl k9 j2⟩, rfl⟩
  · show gi h' 15 6 = gi h' 84 (6 * 0 + 5)
    rw [c15, r84]; exact j4
  · rw [gn_eq (c15 4)] at h2
    show gi h' 18 i = gi h' 85 (16 * 0 + (2 * i + 1))
    rw [show 16 * 0 + (2 * i + 1) = 2 * i + 1 by omega, g9 i h1, fr_gi f9 (rg_no rfl _)]
    exact j5 i h1 h2
noncomputable def half_cnQ (h : pm_H) (x v : Int32) : Prop := QRE h ∧ x = cnv (c9f h) v
theorem cn_eq (hh : HH h) (R : QRE h) : ∀ k, k ≤ 8 → c8f h k = c9f h k := by
  obtain ⟨⟨s1, s2, s3, s4, s5⟩, sa, sd, -⟩ := R.2.1
  intro k hk
  match k, hk with
  | 0, _ => exact s2 0 (by omega)
  | 1, _ => exact s2 1 (by omega)
  | 2, _ => exact s2 2 (by omega)
  | 3, _ => exact s3
  | 4, _ => exact s4
  | 5, _ => exact sa
  | 6, _ => exact s1
  | 7, _ =>
    show gi h 1 1 = gi h 77 6
    rw [gi_gn (a := 1) (k := 1) hh (q := (0, 500)) rfl (by decide), gi_gn (a := 77) (k := 6) hh (q := (0, 500)) rfl (by decide), R.1.1.1.1]
  | 8, _ =>
    show nJ (sct (cf h) 4) = nJ (sct (rf h) 4)
    rw [sct_eq (fun i hi => (SL_cf R.1.2 i hi).1)]
theorem g8_count (I : IVQ h) : Sp 100 93 h [.ref 0, .int v] (fun h' r => IVh h' ∧ ∃ x : Int32, r = some (.int x) ∧ half_cnQ h' x v) := by
  refine Sp_le (by omega) (Sp_mono ?_ (Sp_and (top_all (as := [.ref 0, .int v]) q899 (by decide +kernel) I.1 ⟨rfl, aI _, trivial⟩) (sp_count8 (d := 0) I.1.1)))
  rintro h' r ⟨⟨s1, s2, -⟩, rfl⟩
  have R := QRE_fr s2 rfl I.2
  refine ⟨s1, _, rfl, R, (cnv_eq (fun k hk => ?_))⟩
  rw [cn_eq I.1.1 I.2 k hk]
  have e : ∀ a j, gi h' a j = gi h a j := fun a j => fr_gi s2 rfl
  match k, hk with
  | 0, _ => exact (e 84 0).symm
  | 1, _ => exact (e 84 1).symm
  | 2, _ => exact (e 84 2).symm
  | 3, _ => exact (e 84 3).symm
  | 4, _ => exact (e 84 4).symm
  | 5, _ => exact (e 84 5).symm
  | 6, _ => exact (e 83 0).symm
  | 7, _ => exact (e 77 6).symm
  | 8, _ =>
    show nJ (sct (rf h) 4) = nJ (sct (rf h') 4)
    rw [sct_eq (f := rf h) (g := rf h') (fun i _ => by unfold rf; rw [e 78 i])]
theorem g9_count (I : IVh h) (J : half_cnQ h x v) : Sp 100 233 h [.ref 77, .int v] (fun h' r => IVQ h' ∧ r = some (.int x)) := by
  refine Sp_le (by omega) (Sp_mono ?_ (Sp_and (top_all (as := [.ref 77, .int v]) q901 (by decide +kernel) I ⟨rfl, aI _, trivial⟩) (sp_count9 (d := 0) I.1)))
  rintro h' r ⟨⟨s1, s2, -⟩, rfl⟩
  obtain ⟨J1, rfl⟩ := J
  exact ⟨⟨s1, QRE_fr s2 rfl J1⟩, rfl⟩
end RTQ
theorem IVQ_hp0 : IVQ hp0 := by
  refine ⟨IVS_hp0.1, IVS_hp0.2, ⟨⟨by decide +kernel, fun k hk => ?_, by decide +kernel, by decide +kernel, by decide +kernel⟩, ?_, fun i _ q => ?_, ⟨by decide +kernel, by decide +kernel, by decide +kernel⟩, ⟨fun i hi => ?_, fun i hi => ?_⟩, fun i hi => ?_, fun i hi => ?_, fun i hi => ?_, fun i hi => ?_⟩, fun k hk q => ?_⟩
  · match k, hk with
    | 0, _ => decide +kernel
    | 1, _ => decide +kernel
    | 2, _ => decide +kernel
  · show gi hp0 15 6 = gi hp0 84 (6 * 0 + 5)
    decide +kernel
  · have e : gn hp0 15 4 = 0 := by decide +kernel
    omega
  · have e : gn hp0 15 4 = 0 := by decide +kernel
    omega
  · have e : gn hp0 15 5 = 0 := by decide +kernel
    omega
  · have e : gn hp0 15 6 = 0 := by decide +kernel
    omega
  · have e : gn hp0 15 4 = 0 := by decide +kernel
    omega
  · have e : gn hp0 15 6 = 0 := by decide +kernel
    omega
  · have e : gn hp0 15 4 = 0 := by decide +kernel
    omega
  · match k, hk with
    | 0, _ => exact absurd (by decide +kernel) q
    | 1, _ => exact absurd (by decide +kernel) q
    | 2, _ => exact absurd (by decide +kernel) q
