section
section HNG
variable {h0 : pm_H} {d n : Nat} {W : Nat → Nat}
theorem hn9_out (n8 : n ≤ 8) (wb : ∀ c, c < n → 1 ≤ W c ∧ W c ≤ n) (lw : ∀ q, 1 ≤ q → q ≤ n → q ≤ cw W q n) (h84 : ∀ h, fr_g LM h0 h → gn h 84 0 = n) (h89 : ∀ h, fr_g LM h0 h → gn h 84 3 = n ∧ ∀ c, c < n → gi h 89 c = nJ (W c)) (j : Nat) : ∀ {h : pm_H} {q : Nat} (lv : List (Nat × Value)), q + j = n → HH h → fr_g LM h0 h → TRH 92 93 n q 0 W (hB W n q) h → pm_get lv 0 = some (.ref 77) → pm_get lv 1 = some (.int (nJ (hB W n q).2.2)) → pm_get lv 2 = some (.int (nJ (q + 1))) → Ends (pm_at tX9_laysTree) (pm_Rt pm_P (d + 1)) (11, lv, [], h, 0, 0) (fun h' r => r = none ∧ HH h' ∧ fr_g LM h0 h' ∧ TRX 92 93 n (hB W n n).1 (hB W n n).2.1 h') := by
  have w1 : ∀ c, c < n → 1 ≤ W c := fun c hc => (wb c hc).1
  induction j with
  | zero =>
    intro h q lv hj hh F T L0 L1 L2
    have e : q = n := by omega
    refine E_il rfl L2 ?_
    refine E_al rfl L0 ?_
    refine E_call rfl (sp_places (d := d) hh) (chk77 hh rfl rfl (by show 1 ≤ 8; decide)) (fun h1 r1 => ?_)
    rintro ⟨e1, f1, -⟩
    rw [e1, f1, h84 h F]
    subst e
    refine E_icT rfl (decide_eq_true ((nJ_lt (by omega) (by omega)).mpr (by omega))) ?_
    exact E_ret rfl ⟨rfl, hh, F, TRH_end wb (hV_B w1 lw (Nat.le_refl q)) T⟩
  | succ j ih =>
    intro h q lv hj hh F T L0 L1 L2
    have VB := hV_B w1 lw (show q ≤ n by omega)
    have lq : q < 1 + cw W q n := by
      rcases Nat.eq_zero_or_pos q with z | z
      · omega
      · have := lw q z (by omega); omega
    refine E_il rfl L2 ?_
    refine E_al rfl L0 ?_
    refine E_call rfl (sp_places (d := d) hh) (chk77 hh rfl rfl (by show 1 ≤ 8; decide)) (fun h1 r1 => ?_)
    rintro ⟨e1, f1, -⟩
    rw [e1, f1, h84 h F]
    refine E_icF rfl (decide_eq_false (fun z => absurd ((nJ_lt (by omega) (by omega)).mp z) (by omega))) ?_
    refine E_ci 0 rfl (by decide) ?_
    refine E_is rfl (fun lv2 K3 kp2 => ?_)
    refine hn9_in n8 (show q < n by omega) wb lq VB h89 n (c := 0) lv2 (by omega) hh F T (kp2 0 _ (by decide) rfl L0) (kp2 1 _ (by decide) rfl L1) (kp2 2 _ (by decide) rfl L2) K3 (fun h' lv' hh' F' T' M0 M1 M2 => ?_)
    refine E_inc rfl M2 (nJ_inc _) (fun lv3 K2 kp3 => ?_)
    refine E_goto rfl ?_
    exact ih lv3 (by omega) hh' F' T' (kp3 0 _ (by decide) rfl M0) (kp3 1 _ (by decide) rfl M1) K2
theorem sp_laysTreeX {h : pm_H} (hh : HH h) (n8 : n ≤ 8) (wb : ∀ c, c < n → 1 ≤ W c ∧ W c ≤ n) (lw : ∀ q, 1 ≤ q → q ≤ n → q ≤ cw W q n) (h84 : gn h 84 0 = n) (h843 : gn h 84 3 = n) (h89 : ∀ c, c < n → gi h 89 c = nJ (W c)) : Sp (d + 2) 299 h [.ref 77] (fun h' r => r = none ∧ HH h' ∧ fr_g LM h h' ∧ TRX 92 93 n (hB W n n).1 (hB W n n).2.1 h') := by
  refine Sp_of aiX9_laysTree rfl rfl rfl ?_
  have L0 : pm_get (lv_args 0 [.ref 77]) 0 = some (.ref 77) := rfl
  generalize lv_args 0 [.ref 77] = lv at L0 ⊢
  refine E_ci 1 rfl (by decide) ?_
  refine E_is rfl (fun lv1 K1 kp => ?_)
  refine E_al rfl (kp 0 _ (by decide) rfl L0) ?_
  refine E_gr rfl hh (q := 93) rfl ?_
  refine E_ci 0 rfl (by decide) ?_
  refine E_ci 0 rfl (by decide) ?_
  refine E_ias rfl hh rfl (by omega) (by decide) ?_
  have b93 : bd 93 0 = some (0, 8) := bd_u rfl (by omega)
  have h1 : HH (pt h 93 0 (nJ 0)) := HH_ptn hh b93 (by omega) (by omega) (by omega)
  have F1 : fr_g LM h (pt h 93 0 (nJ 0)) := fr_ptr (l := 0) (u := 8) rfl (by omega) (by omega) (fr_rf _ _)
  have k1 : gi (pt h 93 0 (nJ 0)) 93 0 = nJ 0 := gi_ptn hh b93 (by omega) (by omega) (by omega)
  generalize pt h 93 0 (nJ 0) = a at h1 F1 k1 ⊢
  refine E_ci 1 rfl (by decide) ?_
  refine E_is rfl (fun lv2 K2 kp2 => ?_)
  refine hn9_out (h0 := h) n8 wb lw (fun g f => by rw [fr_gn f (rg_no rfl _)]; exact h84) (fun g f => ⟨by rw [fr_gn f (rg_no rfl _)]; exact h843, fun c hc => by rw [fr_gi f (rg_no rfl _)]; exact h89 c hc⟩) n (q := 0) lv2 (by omega) h1 F1 ⟨fun i hi => ?_, fun c hc p => ?_⟩ (kp2 0 _ (by decide) rfl (kp 0 _ (by decide) rfl L0)) (kp2 1 _ (by decide) rfl K1) K2
  · have hi : i < 1 := hi
    rw [show i = 0 by omega]; exact k1
  · have := (wb c hc).1
    rcases p with p | ⟨_, p⟩ <;> omega
end HNG
end
section
/-! questions of a tree: limbs, turned pairs, what hangs from a node: both (wants u96) -/
/-- a tree of n nodes and 0 -/
noncomputable def DT (n : Nat) (pa : Nat → Nat) : Prop := ∀ v, 1 ≤ v → v ≤ n → dep pa n v ∧ pa v ≤ n
section TRE
variable {h : pm_H} {d n : Nat} {pa : Nat → Nat}
/-! turned pairs: the class -/
/-! what hangs from a node: the class -/
/-! the reference -/
/-! the street's tree -/
noncomputable def oT (h : pm_H) : Nat → Nat := (hB (W9 h) (N9 h) (N9 h)).1
noncomputable def pT (h : pm_H) : Nat → Nat := (hB (W9 h) (N9 h) (N9 h)).2.1
theorem pT_K {h h' : pm_H} (k : K9 h h') : pT h' = pT h := by unfold pT; rw [W9_K k, N9_K k]
noncomputable def tqv (b : Prop) [Decidable b] (h : pm_H) (v : Int32) : Int32 := if b then (if LW9 h = true then v else -1) else -2
theorem zb_dec {p : Prop} [Decidable p] : zb p = zb (decide p = true) := by
  by_cases b : p
  · rw [zb_T b, zb_T (decide_eq_true b)]
  · rw [zb_F b, zb_F (by rw [decide_eq_false b]; decide)]
theorem LW_wb (L : LW9 h = true) (B : B9 h) : N9 h = P9 h ∧ (∀ c, c < N9 h → 1 ≤ W9 h c ∧ W9 h c ≤ N9 h) ∧ ∀ q, 1 ≤ q → q ≤ N9 h → q ≤ cw (W9 h) q (N9 h) := by
  obtain ⟨a, b⟩ := LW9_iff.mp L
  exact ⟨a, fun c hc => by rw [a]; exact B c hc, fun q q1 qn => b q q1 (by omega)⟩
theorem DT_T (L : LW9 h = true) (B : B9 h) : DT (N9 h) (pT h) := by
  obtain ⟨a, wb, lw⟩ := LW_wb L B
  exact hB_dep wb (hV_B (fun c hc => (wb c hc).1) lw (Nat.le_refl _))
/-- a tree of n nodes in both objects -/
theorem sp_hangTree8 {s : Bool} (hh : HH h) (R : QRE h) : Sp (d + 4) 113 h [.ref 0, .int (zb (s = true))] (fun h' r => (¬ (s = true ∧ LW9 h = true) ∧ h' = h ∧ r = some (.int (if s = true then -1 else -2))) ∨ (s = true ∧ LW9 h = true ∧ r = some (.int (nJ 0)) ∧ HH h' ∧ fr_g TF h h' ∧ TRX 65 66 (N9 h) (oT h) (pT h) h' ∧ gi h' 64 5 = nJ (N9 h + 1))) := by
  obtain ⟨l3, p8, n8⟩ := g9s hh
  have F := CW8_of hh R
  have B := B9_of R
  refine Sp_of aiX8_hangTree rfl rfl rfl ?_
  have L0 : pm_get (lv_args 0 [.ref 0, .int (zb (s = true))]) 0 = some (.ref 0) := rfl
  have L1 : pm_get (lv_args 0 [.ref 0, .int (zb (s = true))]) 1 = some (.int (zb (s = true))) := rfl
  generalize lv_args 0 [.ref 0, .int (zb (s = true))] = lv at L0 L1 ⊢
  refine E_al rfl L0 ?_
  refine E_il rfl L1 ?_
  refine E_call rfl (sp_rowRefusal8 (d := d) (s := s) hh F B) (chkO (a := 0) hh rfl rfl rfl rfl (by show 0 ≤ 8; decide)) (fun h1 r1 => ?_)
  rintro ⟨e1, f1⟩
  rw [e1, f1]
  refine E_is rfl (fun lv1 K2 kp => ?_)
  have A0 := kp 0 _ (by decide) rfl L0
  refine E_il rfl K2 ?_
  by_cases b : s = true ∧ LW9 h = true
  · rw [if_pos b.1, if_pos b.2] at K2 ⊢
    obtain ⟨a, wb, lw⟩ := LW_wb b.2 B
    have f0 := F.2.1
    rw [← a] at f0
    refine E_ifF rfl (by decide) ?_
    refine E_al rfl A0 ?_
    refine E_ogr (q := 64) rfl hh rfl rfl ?_
    refine E_al rfl A0 ?_
    refine E_ogr (q := 15) rfl hh rfl rfl ?_
    refine E_ogr (q := 17) rfl hh rfl rfl ?_
    refine E_al rfl A0 ?_
    refine E_ogr (q := 15) rfl hh rfl rfl ?_
    refine E_ogf (q := (0, 8)) rfl hh rfl rfl f0 ?_
    refine E_call rfl (Sp_le (by omega) (sp_hang8 (d := d) hh n8 wb lw F.2.2)) (chkO (a := 64) hh rfl rfl rfl rfl (by show 0 ≤ 8; decide)) (fun h2 r2 => ?_)
    rintro ⟨e2, hh2, f2, T2, k5⟩
    rw [e2]
    refine E_il rfl K2 ?_
    exact E_rti rfl (.inr ⟨b.1, b.2, rfl, hh2, f2, T2, k5⟩)
  · have e : (if s = true then (if LW9 h = true then (0 : Int32) else -1) else -2) = if s = true then -1 else -2 := by
      by_cases c : s = true
      · rw [if_pos c, if_pos c, if_neg (fun q => b ⟨c, q⟩)]
      · rw [if_neg c, if_neg c]
    rw [e] at K2 ⊢
    refine E_ifT rfl (decide_eq_true (by split <;> decide)) ?_
    refine E_il rfl K2 ?_
    exact E_rti rfl (.inl ⟨b, rfl, rfl⟩)
end TRE
end

