section
section STS
variable {T : Nat → Int32} {L d : Nat} {h : pm_H}
theorem sp_street9 (B : TB T L h) : Sp (d + 11) 354 h [.ref 77] (S9Q (PRS T L) h) := by
  have hh : HH h := B.1
  refine Sp_of aiX9_street rfl rfl rfl ?_
  have L0 : pm_get (lv_args 0 [.ref 77]) 0 = some (.ref 77) := rfl
  generalize lv_args 0 [.ref 77] = lv at L0 ⊢
  refine E_al rfl L0 ?_
  refine E_ci 0 rfl (by decide) ?_
  refine E_pf rfl hh rfl ?_
  have hh1 : HH (pt h 77 0 (nJ 0)) := HH_ptn hh rfl (by omega) (by omega) (by omega)
  have B1 := TB_pt B (by omega) hh1
  have F1 : fr_g STM h (pt h 77 0 (nJ 0)) := fr_ptr (l := 0) (u := 0) rfl (by omega) (by omega) (fr_rf _ _)
  generalize pt h 77 0 (nJ 0) = h1 at hh1 B1 F1 ⊢
  refine E_al rfl L0 ?_
  refine E_call rfl (Sp_le (by omega) (sp_clears (d := d) hh1)) (chk77 hh1 rfl rfl (by show 0 ≤ 8; decide)) (fun h2 r2 => ?_)
  rintro ⟨e2, hh2, f2, z2, c2⟩
  rw [e2]
  have B2 := TB_fr f2 rfl rfl hh2 B1
  refine E_al rfl L0 ?_
  refine E_call rfl (Sp_le (by omega) (sp_bg (d := d) B2)) (chk77 hh2 rfl rfl (by show 0 ≤ 8; decide)) (fun h3 r3 => ?_)
  rintro ⟨e3, f3, R3⟩
  rw [e3]
  have e84 : ∀ k, gi h3 84 k = gi h2 84 k := fun k => fr_gi f3 (rg_no rfl _)
  have sk := skp_le (T := T) (L := L) (i := 0) (Nat.zero_le _)
  unfold PRS
  refine s9_loop (d := d) (L + 1) lv R3 ⟨?_, ?_, ?_, ?_, ?_, ?_, fun i hi => absurd hi (Nat.not_lt_zero i), fun i hi => absurd hi (Nat.not_lt_zero i)⟩ (.inl ⟨rfl, rfl, rfl, rfl⟩) (by rw [fr_gi f3 (rg_no rfl _)]; exact z2) (Nat.zero_le _) (fr_trans F1 (fr_trans (fr_wk rfl f2) (fr_wk rfl f3))) (by omega) L0
  · rw [e84, gi_gn hh2 rfl (by decide)]; exact congrArg nJ (c2 0 (by omega))
  · rw [e84, gi_gn hh2 rfl (by decide)]; exact congrArg nJ (c2 1 (by omega))
  · rw [e84, gi_gn hh2 rfl (by decide)]; exact congrArg nJ (c2 2 (by omega))
  · rw [e84, gi_gn hh2 rfl (by decide)]; exact congrArg nJ (c2 3 (by omega))
  · rw [e84, gi_gn hh2 rfl (by decide)]; exact congrArg nJ (c2 4 (by omega))
  · rw [e84, gi_gn hh2 rfl (by decide)]; exact congrArg nJ (c2 5 (by omega))
end STS
end
section
/-! what a street tells is within its bounds (wants t50, t53) -/
noncomputable def Wt (σ : Sg) : Prop := ∀ i, i < σ.2.1.1 → 1 ≤ σ.2.1.2.1 i ∧ σ.2.1.2.1 i ≤ σ.1.1
theorem Wt_ln {T : Nat → Int32} {L n s t : Nat} {σ : Sg} (W : Ws n σ) (V : Wt σ) (e : (ln T L n σ s).1 = .inr t) : Wt (ln T L n σ s).2 := by
  rcases W with ⟨n0, p0, c0, j0⟩ | ⟨n0, p1, p8, cp, wf, rr, nc, ab⟩
  · subst n0
    have ec : (ln T L 0 σ s).2.2.1 = σ.2.1 := rfl
    intro i hi
    rw [ec, c0] at hi
    exact absurd hi (Nat.not_lt_zero i)
  · have nb : Nat.beq n 0 = false := nbeqF n0
    unfold ln at e ⊢
    rw [nb] at e ⊢
    dsimp only [cond_false] at e ⊢
    cases hc : wIs T L s (wd 4) with
    | true =>
      rw [hc] at e
      dsimp only [cond_true] at e ⊢
      by_cases ecp : σ.2.1.1 = σ.1.1
      · rw [nbeq.mpr ecp] at e
        cases e
      · rw [nbeqF ecp] at e ⊢
        dsimp only [cond_false] at e ⊢
        have e : bN T L 0 99 (bW T L (wd 6) (bN T L 1 σ.1.1 (bW T L (wd 5) (.inr (nxt T L s))))) = .inr t := e
        obtain ⟨t1, e1, -, -⟩ := bN_in e
        obtain ⟨t2, e2, -, -⟩ := bW_in e1
        obtain ⟨t3, e3, ok, -⟩ := bN_in e2
        have v := okN_v ok
        rw [← e3] at v
        intro i hi
        show 1 ≤ fup σ.2.1.2.1 σ.2.1.1 (bV T L 1 σ.1.1 (bW T L (wd 5) (.inr (nxt T L s)))) i ∧ fup σ.2.1.2.1 σ.2.1.1 (bV T L 1 σ.1.1 (bW T L (wd 5) (.inr (nxt T L s)))) i ≤ σ.1.1
        by_cases q : i = σ.2.1.1
        · rw [q, fup_s]; exact v
        · have hi : i < σ.2.1.1 + 1 := hi
          rw [fup_n q]; exact V i (by omega)
    | false =>
      rw [hc] at e
      dsimp only [cond_false] at e ⊢
      cases hj : wIs T L s (wd 7) with
      | false =>
        rw [hj] at e
        cases e
      | true =>
        dsimp only [cond_true]
        exact V
theorem prs_wt {T : Nat → Int32} {L : Nat} (f : Nat) : ∀ {n s : Nat} {σ : Sg}, Ws n σ → Wt σ → isR (prs T L f n σ s).1 = true → Wt (prs T L f n σ s).2.2 := by
  induction f with
  | zero => intro n s σ _ V _; exact V
  | succ f ih =>
    intro n s σ W V hr
    by_cases b2 : tkk T L s = 0
    · rw [prs_end b2]
      exact V
    · cases x1 : bS T L (ln T L n σ s).1 with
      | inl e =>
        rw [prs_bad b2 x1] at hr
        cases hr
      | inr s' =>
        obtain ⟨t, et, k3, es⟩ := bS_in x1
        rw [prs_go b2 x1] at hr ⊢
        exact ih (Ws_ln W et) (Wt_ln W V et) hr
theorem PRS_wt {T : Nat → Int32} {L : Nat} (hr : isR (PRS T L).1 = true) : Wt (PRS T L).2.2 :=
  prs_wt (L + 1) (.inl ⟨rfl, rfl, rfl, rfl⟩) (fun i hi => absurd hi (Nat.not_lt_zero i)) hr
end
section
/-! wishes as they are now: those told, and the acts done upon them -/
noncomputable def dAct (C G Z : Nat → Nat) (i : Nat) (f : Nat → Nat) : Nat → Nat := if Z i = 0 then fup f (C i) (G i) else fup (fup f (C i) (f (G i))) (G i) (f (C i))
noncomputable def nwF (C G Z t : Nat → Nat) : Nat → Nat → Nat
  | 0 => t
  | n + 1 => dAct C G Z n (nwF C G Z t n)
noncomputable def vAct (m P : Nat) (C G Z : Nat → Nat) (i : Nat) : Prop := C i < m ∧ ((Z i = 0 ∧ 1 ≤ G i ∧ G i ≤ P) ∨ (Z i = 1 ∧ G i < m))
theorem dAct_cg {C G Z C' G' Z' f f' : Nat → Nat} {i m P : Nat} (c : C' i = C i) (g : G' i = G i) (z : Z' i = Z i) (v : vAct m P C G Z i) (e : ∀ j, j < m → f' j = f j) : ∀ j, j < m → dAct C' G' Z' i f' j = dAct C G Z i f j := by
  intro j hj
  unfold dAct fup
  rw [c, g, z]
  obtain ⟨v1, v2⟩ := v
  rcases v2 with ⟨z0, -, -⟩ | ⟨z1, v3⟩
  · rw [if_pos z0, if_pos z0]
    rw [e j hj]
  · have z2 : ¬ Z i = 0 := by omega
    rw [if_neg z2, if_neg z2]
    rw [e j hj, e _ v1, e _ v3]
theorem nwF_cg {C G Z t C' G' Z' t' : Nat → Nat} {m P : Nat} (n : Nat) (e : ∀ i, i < n → C' i = C i ∧ G' i = G i ∧ Z' i = Z i) (v : ∀ i, i < n → vAct m P C G Z i) (q : ∀ j, j < m → t' j = t j) : ∀ j, j < m → nwF C' G' Z' t' n j = nwF C G Z t n j := by
  induction n with
  | zero => exact q
  | succ n ih =>
    obtain ⟨e1, e2, e3⟩ := e n (by omega)
    exact dAct_cg e1 e2 e3 (v n (by omega)) (ih (fun i hi => e i (by omega)) (fun i hi => v i (by omega)))
theorem dAct_in {C G Z f : Nat → Nat} {i m P : Nat} (v : vAct m P C G Z i) (e : ∀ j, j < m → 1 ≤ f j ∧ f j ≤ P) : ∀ j, j < m → 1 ≤ dAct C G Z i f j ∧ dAct C G Z i f j ≤ P := by
  intro j hj
  unfold dAct fup
  obtain ⟨v1, v2⟩ := v
  rcases v2 with ⟨z0, g1, g2⟩ | ⟨z1, v3⟩
  · rw [if_pos z0]
    split
    · exact ⟨g1, g2⟩
    · exact e j hj
  · have z2 : ¬ Z i = 0 := by omega
    rw [if_neg z2]
    split
    · exact e _ v1
    · split
      · exact e _ v3
      · exact e j hj
theorem nwF_in {C G Z t : Nat → Nat} {m P : Nat} (n : Nat) (v : ∀ i, i < n → vAct m P C G Z i) (q : ∀ j, j < m → 1 ≤ t j ∧ t j ≤ P) : ∀ j, j < m → 1 ≤ nwF C G Z t n j ∧ nwF C G Z t n j ≤ P := by
  induction n with
  | zero => exact q
  | succ n ih => exact dAct_in (v n (by omega)) (ih (fun i hi => v i (by omega)))
/-- a store to an array of numbers, as a whole -/
theorem gn_fup {h : pm_H} {a k v : Nat} {lo hi : Int} (hh : HH h) (hb : bd a k = some (lo, hi)) (hv : v < 2147483648) (h1 : lo ≤ (v : Int)) (h2 : (v : Int) ≤ hi) : gn (pt h a k (nJ v)) a = fup (gn h a) k v := by
  funext j
  by_cases e : j = k
  · rw [e, fup_s, gn_ptn hh hb hv h1 h2]
  · rw [fup_n e, gn_ne (fun _ => e)]
theorem gn_eq0 {h : pm_H} {a k : Nat} {q : Int × Int} (hh : HH h) (hb : bd a k = some q) (h0 : 0 ≤ q.1) : gi h a k = 0 ↔ gn h a k = 0 := by
  have e := gi_gn hh hb h0
  constructor
  · intro z
    unfold gn
    rw [z]
    rfl
  · intro z
    rw [e, z]
    rfl
end
section
/-! undo, anew, rate, wants, trades: what they do to the numbers that are counted (wants t52 for E_zasB) -/
section AC8
variable {h : pm_H} {d : Nat} {x y : Int32}
theorem g15 (hh : HH h) : gi h 15 0 = nJ (gn h 15 0) ∧ gn h 15 0 ≤ 8 ∧ gi h 15 4 = nJ (gn h 15 4) ∧ gn h 15 4 ≤ 8 ∧ gi h 15 6 = nJ (gn h 15 6) ∧ gn h 15 6 ≤ 20 := ⟨gi_gn hh rfl (by decide), gn_hi hh rfl (by decide), gi_gn hh rfl (by decide), gn_hi hh rfl (by decide), gi_gn hh rfl (by decide), gn_hi hh rfl (by decide)⟩
theorem sp_hasStreet8 (hh : HH h) : Sp (d + 1) 118 h [.ref 0] (fun h' r => h' = h ∧ r = some (.int (zb (0 < gn h 15 0)))) := by
  obtain ⟨a1, a2, -⟩ := g15 hh
  refine Sp_of aiX8_hasStreet rfl rfl rfl ?_
  have L0 : pm_get (lv_args 0 [.ref 0]) 0 = some (.ref 0) := rfl
  generalize lv_args 0 [.ref 0] = lv at L0 ⊢
  refine E_al rfl L0 ?_
  refine E_ogr (q := 15) rfl hh rfl rfl ?_
  refine E_ogf (q := (0, 8)) rfl hh rfl rfl a1 ?_
  by_cases b : gn h 15 0 = 0
  · refine E_ifT rfl (decide_eq_true ((nJ_le0 (by omega)).mpr b)) ?_
    refine E_ci 0 rfl (by decide) ?_
    exact E_rtz rfl (.inl rfl) ⟨rfl, by rw [zb_F (by omega)]⟩
  · refine E_ifF rfl (decide_eq_false (fun z => b ((nJ_le0 (by omega)).mp z))) ?_
    refine E_ci 1 rfl (by decide) ?_
    refine E_goto rfl ?_
    exact E_rtz rfl (.inr rfl) ⟨rfl, by rw [zb_T (by omega)]⟩
theorem sp_hasCar8 (hh : HH h) : Sp (d + 1) 114 h [.ref 0, .int x] (fun h' r => h' = h ∧ r = some (.int (zb (0 ≤ x.toInt ∧ x.toInt < (gn h 15 4 : Int))))) := by
  obtain ⟨-, -, a3, a4, -⟩ := g15 hh
  have z0 : (0 : Int32).toInt = 0 := rfl
  refine Sp_of aiX8_hasCar rfl rfl rfl ?_
  have L0 : pm_get (lv_args 0 [.ref 0, .int x]) 0 = some (.ref 0) := rfl
  have L1 : pm_get (lv_args 0 [.ref 0, .int x]) 1 = some (.int x) := rfl
  generalize lv_args 0 [.ref 0, .int x] = lv at L0 L1 ⊢
  refine E_il rfl L1 ?_
  by_cases b1 : x < 0
  · have q := Int32.lt_iff_toInt_lt.mp b1
    refine E_ifT rfl (decide_eq_true b1) ?_
    refine E_ci 0 rfl (by decide) ?_
    exact E_rtz rfl (.inl rfl) ⟨rfl, by rw [zb_F (by omega)]⟩
  have q1 : ¬ x.toInt < (0 : Int32).toInt := fun z => b1 (Int32.lt_iff_toInt_lt.mpr z)
  refine E_ifF rfl (decide_eq_false b1) ?_
  refine E_il rfl L1 ?_
  refine E_al rfl L0 ?_
  refine E_ogr (q := 15) rfl hh rfl rfl ?_
  refine E_ogf (q := (0, 8)) rfl hh rfl rfl a3 ?_
  by_cases b2 : nJ (gn h 15 4) ≤ x
  · have q := Int32.le_iff_toInt_le.mp b2
    rw [nJ_toInt (by omega)] at q
    refine E_icT rfl (decide_eq_true b2) ?_
    refine E_ci 0 rfl (by decide) ?_
    exact E_rtz rfl (.inl rfl) ⟨rfl, by rw [zb_F (by omega)]⟩
  · have q : ¬ (nJ (gn h 15 4)).toInt ≤ x.toInt := fun z => b2 (Int32.le_iff_toInt_le.mpr z)
    rw [nJ_toInt (by omega)] at q
    refine E_icF rfl (decide_eq_false b2) ?_
    refine E_ci 1 rfl (by decide) ?_
    refine E_goto rfl ?_
    exact E_rtz rfl (.inr rfl) ⟨rfl, by rw [zb_T (by omega)]⟩
theorem sp_hasPlace8 (hh : HH h) : Sp (d + 1) 117 h [.ref 0, .int x] (fun h' r => h' = h ∧ r = some (.int (zb (1 ≤ x.toInt ∧ x.toInt ≤ (gn h 15 0 : Int))))) := by
  obtain ⟨a3, a4, -⟩ := g15 hh
  have z0 : (1 : Int32).toInt = 1 := rfl
  refine Sp_of aiX8_hasPlace rfl rfl rfl ?_
  have L0 : pm_get (lv_args 0 [.ref 0, .int x]) 0 = some (.ref 0) := rfl
  have L1 : pm_get (lv_args 0 [.ref 0, .int x]) 1 = some (.int x) := rfl
  generalize lv_args 0 [.ref 0, .int x] = lv at L0 L1 ⊢
  refine E_il rfl L1 ?_
  refine E_c rfl ?_
  by_cases b1 : x < 1
  · have q := Int32.lt_iff_toInt_lt.mp b1
    refine E_icT rfl (decide_eq_true b1) ?_
    refine E_ci 0 rfl (by decide) ?_
    exact E_rtz rfl (.inl rfl) ⟨rfl, by rw [zb_F (by omega)]⟩
  have q1 : ¬ x.toInt < (1 : Int32).toInt := fun z => b1 (Int32.lt_iff_toInt_lt.mpr z)
  refine E_icF rfl (decide_eq_false b1) ?_
  refine E_il rfl L1 ?_
  refine E_al rfl L0 ?_
  refine E_ogr (q := 15) rfl hh rfl rfl ?_
  refine E_ogf (q := (0, 8)) rfl hh rfl rfl a3 ?_
  by_cases b2 : nJ (gn h 15 0) < x
  · have q := Int32.lt_iff_toInt_lt.mp b2
    rw [nJ_toInt (by omega)] at q
    refine E_icT rfl (decide_eq_true b2) ?_
    refine E_ci 0 rfl (by decide) ?_
    exact E_rtz rfl (.inl rfl) ⟨rfl, by rw [zb_F (by omega)]⟩
  · have q : ¬ (nJ (gn h 15 0)).toInt < x.toInt := fun z => b2 (Int32.lt_iff_toInt_lt.mpr z)
    rw [nJ_toInt (by omega)] at q
    refine E_icF rfl (decide_eq_false b2) ?_
    refine E_ci 1 rfl (by decide) ?_
    refine E_goto rfl ?_
    exact E_rtz rfl (.inr rfl) ⟨rfl, by rw [zb_T (by omega)]⟩
end AC8
end
