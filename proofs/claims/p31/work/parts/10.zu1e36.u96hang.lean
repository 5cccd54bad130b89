section
/-! the tree that hangs by wishes: one pure law; it grows by both (wants PRK, u69) -/
noncomputable abbrev HG : Type := (Nat → Nat) × (Nat → Nat) × Nat
noncomputable def hstep (W : Nat → Nat) (p c : Nat) (s : HG) : HG := if W c = p then (fup s.1 s.2.2 (c + 1), fup s.2.1 (c + 1) (s.1 (p - 1)), s.2.2 + 1) else s
noncomputable def hI (W : Nat → Nat) (p : Nat) (s : HG) : Nat → HG
  | 0 => s
  | c + 1 => hstep W p c (hI W p s c)
noncomputable def hB (W : Nat → Nat) (n : Nat) : Nat → HG
  | 0 => (fun _ => 0, fun _ => 0, 1)
  | q + 1 => hI W (q + 1) (hB W n q) n
theorem hI_c {W : Nat → Nat} {p : Nat} {s : HG} : ∀ c, (hI W p s c).2.2 = s.2.2 + ce W p c
  | 0 => rfl
  | c + 1 => by
    show (hstep W p c (hI W p s c)).2.2 = _
    unfold hstep
    by_cases e : W c = p
    · rw [if_pos e, ce_T e]
      show (hI W p s c).2.2 + 1 = _
      rw [hI_c c]; omega
    · rw [if_neg e, ce_F e, hI_c c]
theorem hI_lo {W : Nat → Nat} {p : Nat} {s : HG} {i : Nat} (h : i < s.2.2) : ∀ c, (hI W p s c).1 i = s.1 i
  | 0 => rfl
  | c + 1 => by
    show (hstep W p c (hI W p s c)).1 i = _
    have l : s.2.2 ≤ (hI W p s c).2.2 := by rw [hI_c c]; omega
    unfold hstep
    by_cases e : W c = p
    · rw [if_pos e]
      show fup (hI W p s c).1 (hI W p s c).2.2 (c + 1) i = _
      rw [fup_n (by omega), hI_lo h c]
    · rw [if_neg e, hI_lo h c]
/-- a car that has come by then -/
noncomputable def hPr (W : Nat → Nat) (q c0 c : Nat) : Prop := W c < q + 1 ∨ (W c = q + 1 ∧ c < c0)
noncomputable def hV (W : Nat → Nat) (n q c0 : Nat) (s : HG) : Prop := s.2.2 = 1 + cw W q n + ce W (q + 1) c0 ∧ s.1 0 = 0 ∧ (∀ i, 1 ≤ i → i < s.2.2 → ∃ c, c < n ∧ s.1 i = c + 1 ∧ hPr W q c0 c ∧ ∃ j, j < i ∧ s.2.1 (c + 1) = s.1 j) ∧ ∀ c, c < n → hPr W q c0 c → ∃ i, 1 ≤ i ∧ i < s.2.2 ∧ s.1 i = c + 1
theorem hV_step {W : Nat → Nat} {n q c : Nat} {s : HG} (hc : c < n) (lw : q < 1 + cw W q n) (V : hV W n q c s) : hV W n q (c + 1) (hstep W (q + 1) c s) := by
  obtain ⟨v1, v2, v3, v4⟩ := V
  unfold hstep
  by_cases e : W c = q + 1
  · rw [if_pos e]
    refine ⟨by show s.2.2 + 1 = _; rw [ce_T e]; omega, ?_, fun i i1 i2 => ?_, fun c' hc' p' => ?_⟩
    · show fup s.1 s.2.2 (c + 1) 0 = 0
      rw [fup_n (by omega)]; exact v2
    · by_cases a : i = s.2.2
      · refine ⟨c, hc, by rw [a]; exact fup_s _ _ _, .inr ⟨e, by omega⟩, q, by omega, ?_⟩
        show fup s.2.1 (c + 1) (s.1 (q + 1 - 1)) (c + 1) = fup s.1 s.2.2 (c + 1) q
        rw [fup_s, fup_n (by omega)]
        rfl
      · have i2 : i < s.2.2 + 1 := i2
        obtain ⟨c', h1, h2, h3, j, h4, h5⟩ := v3 i i1 (by omega)
        have ne : c' ≠ c := fun z => by
          rw [z] at h3
          rcases h3 with h3 | ⟨_, h3⟩ <;> omega
        refine ⟨c', h1, ?_, ?_, j, h4, ?_⟩
        · show fup s.1 s.2.2 (c + 1) i = c' + 1
          rw [fup_n a]; exact h2
        · rcases h3 with h3 | ⟨h3, h6⟩
          · exact .inl h3
          · exact .inr ⟨h3, by omega⟩
        · show fup s.2.1 (c + 1) (s.1 (q + 1 - 1)) (c' + 1) = fup s.1 s.2.2 (c + 1) j
          rw [fup_n (by omega), fup_n (by omega)]; exact h5
    · by_cases a : c' = c
      · exact ⟨s.2.2, by omega, by show s.2.2 < s.2.2 + 1; omega, by rw [a]; exact fup_s _ _ _⟩
      · obtain ⟨i, i1, i2, i3⟩ := v4 c' hc' (by
          rcases p' with h3 | ⟨h3, h6⟩
          · exact .inl h3
          · exact .inr ⟨h3, by omega⟩)
        refine ⟨i, i1, by show i < s.2.2 + 1; omega, ?_⟩
        show fup s.1 s.2.2 (c + 1) i = c' + 1
        rw [fup_n (by omega)]; exact i3
  · rw [if_neg e]
    refine ⟨by rw [ce_F e]; exact v1, v2, fun i i1 i2 => ?_, fun c' hc' p' => v4 c' hc' ?_⟩
    · obtain ⟨c', h1, h2, h3, h4⟩ := v3 i i1 i2
      refine ⟨c', h1, h2, ?_, h4⟩
      rcases h3 with h3 | ⟨h3, h6⟩
      · exact .inl h3
      · exact .inr ⟨h3, by omega⟩
    · rcases p' with h3 | ⟨h3, h6⟩
      · exact .inl h3
      · refine .inr ⟨h3, ?_⟩
        have : c' ≠ c := fun z => e (by rw [← z]; exact h3)
        omega
theorem hV_next {W : Nat → Nat} {n q : Nat} {s : HG} (V : hV W n q n s) : hV W n (q + 1) 0 s := by
  obtain ⟨v1, v2, v3, v4⟩ := V
  refine ⟨by rw [v1, cw_succ]; show _ = _ + 0; omega, v2, fun i i1 i2 => ?_, fun c' hc' p' => v4 c' hc' ?_⟩
  · obtain ⟨c', h1, h2, h3, h4⟩ := v3 i i1 i2
    refine ⟨c', h1, h2, .inl ?_, h4⟩
    rcases h3 with h3 | ⟨h3, _⟩ <;> omega
  · rcases p' with h3 | ⟨_, h3⟩
    · by_cases e : W c' = q + 1
      · exact .inr ⟨e, hc'⟩
      · exact .inl (by omega)
    · omega
theorem hV_I {W : Nat → Nat} {n q : Nat} {s : HG} (lw : q < 1 + cw W q n) (V : hV W n q 0 s) : ∀ {c : Nat}, c ≤ n → hV W n q c (hI W (q + 1) s c)
  | 0, _ => V
  | c + 1, h => hV_step (by omega) lw (hV_I lw V (by omega))
theorem hV_B {W : Nat → Nat} {n : Nat} (w1 : ∀ c, c < n → 1 ≤ W c) (lw : ∀ q, 1 ≤ q → q ≤ n → q ≤ cw W q n) : ∀ {q : Nat}, q ≤ n → hV W n q 0 (hB W n q)
  | 0, _ => by
    refine ⟨?_, rfl, fun i i1 i2 => ?_, fun c hc p => ?_⟩
    · rw [cw_none (fun c hc => by have := w1 c hc; omega)]; rfl
    · have : i < 1 := i2
      omega
    · have := w1 c hc
      rcases p with h3 | ⟨_, h3⟩ <;> omega
  | q + 1, h => hV_next (hV_I (by
      rcases Nat.eq_zero_or_pos q with z | z
      · omega
      · have := lw q z (by omega); omega) (hV_B w1 lw (by omega)) (Nat.le_refl n))
theorem hV_all {W : Nat → Nat} {n : Nat} (wb : ∀ c, c < n → 1 ≤ W c ∧ W c ≤ n) : cw W n n = n := by
  have : ∀ m, m ≤ n → cw W n m = m := by
    intro m
    induction m with
    | zero => intro _; rfl
    | succ m ih =>
      intro h
      rw [cw_T (wb m (by omega)).2, ih (by omega)]
  exact this n (Nat.le_refl n)
/-- a tree in two rows of an object: nodes by their order, parents -/
noncomputable def TRX (A B n : Nat) (o p : Nat → Nat) (h : pm_H) : Prop := (∀ i, i ≤ n → gi h B i = nJ (o i)) ∧ ∀ v, 1 ≤ v → v ≤ n → gi h A v = nJ (p v)
/-- the same while it grows -/
noncomputable def TRH (A B n q c0 : Nat) (W : Nat → Nat) (s : HG) (h : pm_H) : Prop := (∀ i, i < s.2.2 → gi h B i = nJ (s.1 i)) ∧ ∀ c, c < n → hPr W q c0 c → gi h A (c + 1) = nJ (s.2.1 (c + 1))
theorem TRH_skip {A B n q c : Nat} {W : Nat → Nat} {s : HG} {h : pm_H} (e : ¬ W c = q + 1) (T : TRH A B n q c W s h) : TRH A B n q (c + 1) W (hstep W (q + 1) c s) h := by
  unfold hstep
  rw [if_neg e]
  refine ⟨T.1, fun c' hc' p' => T.2 c' hc' ?_⟩
  rcases p' with h3 | ⟨h3, h6⟩
  · exact .inl h3
  · refine .inr ⟨h3, ?_⟩
    have : c' ≠ c := fun z => e (by rw [← z]; exact h3)
    omega
theorem TRH_add {A B n q c : Nat} {W : Nat → Nat} {s : HG} {h h' : pm_H} (e : W c = q + 1) (T : TRH A B n q c W s h) (b1 : gi h' B s.2.2 = nJ (c + 1)) (b2 : ∀ i, i ≠ s.2.2 → gi h' B i = gi h B i) (a1 : gi h' A (c + 1) = nJ (s.1 q)) (a2 : ∀ i, i ≠ c + 1 → gi h' A i = gi h A i) : TRH A B n q (c + 1) W (hstep W (q + 1) c s) h' := by
  unfold hstep
  rw [if_pos e]
  refine ⟨fun i hi => ?_, fun c' hc' p' => ?_⟩
  · show gi h' B i = nJ (fup s.1 s.2.2 (c + 1) i)
    have hi : i < s.2.2 + 1 := hi
    by_cases a : i = s.2.2
    · rw [a, fup_s]; exact b1
    · rw [fup_n a, b2 i a]; exact T.1 i (by omega)
  · show gi h' A (c' + 1) = nJ (fup s.2.1 (c + 1) (s.1 (q + 1 - 1)) (c' + 1))
    by_cases a : c' = c
    · rw [a, fup_s]; exact a1
    · rw [fup_n (by omega), a2 _ (by omega)]
      refine T.2 c' hc' ?_
      rcases p' with h3 | ⟨h3, h6⟩
      · exact .inl h3
      · exact .inr ⟨h3, by omega⟩
theorem TRH_next {A B n q : Nat} {W : Nat → Nat} {s : HG} {h : pm_H} (T : TRH A B n q n W s h) : TRH A B n (q + 1) 0 W s h := by
  refine ⟨T.1, fun c' hc' p' => T.2 c' hc' ?_⟩
  rcases p' with h3 | ⟨_, h3⟩
  · by_cases e : W c' = q + 1
    · exact .inr ⟨e, hc'⟩
    · exact .inl (by omega)
  · omega
theorem TRH_end {A B n : Nat} {W : Nat → Nat} {h : pm_H} (wb : ∀ c, c < n → 1 ≤ W c ∧ W c ≤ n) (V : hV W n n 0 (hB W n n)) (T : TRH A B n n 0 W (hB W n n) h) : TRX A B n (hB W n n).1 (hB W n n).2.1 h := by
  have e : (hB W n n).2.2 = 1 + n := by rw [V.1, hV_all wb]; show 1 + n + 0 = _; omega
  refine ⟨fun i hi => T.1 i (by omega), fun v v1 vn => ?_⟩
  have := T.2 (v - 1) (by omega) (.inl (by have := (wb (v - 1) (by omega)).2; omega))
  rw [show v - 1 + 1 = v by omega] at this
  exact this
/-- it is a tree: from each node on it goes to 0 -/
theorem hB_dep {W : Nat → Nat} {n : Nat} (wb : ∀ c, c < n → 1 ≤ W c ∧ W c ≤ n) (V : hV W n n 0 (hB W n n)) : ∀ v, 1 ≤ v → v ≤ n → dep (hB W n n).2.1 n v ∧ (hB W n n).2.1 v ≤ n := by
  have e : (hB W n n).2.2 = 1 + n := by rw [V.1, hV_all wb]; show 1 + n + 0 = _; omega
  generalize hB W n n = s at V e ⊢
  obtain ⟨-, v2, v3, v4⟩ := V
  have dp : ∀ i, i ≤ n → dep s.2.1 i (s.1 i) ∧ s.1 i ≤ n := by
    intro i
    induction i using Nat.strongRecOn with
    | _ i ih =>
      intro hi
      by_cases z : i = 0
      · rw [z, v2]; exact ⟨rfl, Nat.zero_le n⟩
      · obtain ⟨c, h1, h2, -, j, h4, h5⟩ := v3 i (by omega) (by omega)
        have dj := ih j h4 (by omega)
        obtain ⟨k, rfl⟩ : ∃ k, i = k + 1 := ⟨i - 1, by omega⟩
        refine ⟨?_, by omega⟩
        rw [h2]
        refine .inr ?_
        rw [h5]
        exact dep_le dj.1 (by omega)
  intro v v1 vn
  obtain ⟨i, i1, i2, i3⟩ := v4 (v - 1) (by omega) (.inl (by have := (wb (v - 1) (by omega)).2; omega))
  rw [show v - 1 + 1 = v by omega] at i3
  have d := dp i (by omega)
  rw [i3] at d
  refine ⟨dep_le d.1 (by omega), ?_⟩
  obtain ⟨c, h1, h2, -, j, h4, h5⟩ := v3 i i1 i2
  rw [show c + 1 = v by omega] at h5
  rw [h5]
  exact (dp j (by omega)).2
theorem hB_le {W : Nat → Nat} {n : Nat} {q c0 : Nat} {s : HG} (V : hV W n q c0 s) {i : Nat} (hi : i < s.2.2) : s.1 i ≤ n := by
  by_cases z : i = 0
  · rw [z, V.2.1]; exact Nat.zero_le n
  · obtain ⟨c, h1, h2, -⟩ := V.2.2.1 i (by omega) hi
    omega
/-! the class -/
noncomputable def TF : List Rng := [(64, 5, 6), (65, 0, 8), (66, 0, 8)]
section HNG
variable {h0 : pm_H} {d n : Nat} {W : Nat → Nat}
theorem sp_beginT {h : pm_H} (hh : HH h) (n8 : n ≤ 8) : Sp (d + 1) 58 h [.ref 64, .int (nJ n)] (fun h' r => r = none ∧ HH h' ∧ fr_g TF h h' ∧ gi h' 64 5 = nJ (n + 1) ∧ gi h' 64 6 = nJ 1 ∧ gi h' 66 0 = nJ 0 ∧ ∀ v, gi h' 65 v = gi h 65 v) := by
  refine Sp_of aiX7_begin rfl rfl rfl ?_
  have L0 : pm_get (lv_args 0 [.ref 64, .int (nJ n)]) 0 = some (.ref 64) := rfl
  have L1 : pm_get (lv_args 0 [.ref 64, .int (nJ n)]) 1 = some (.int (nJ n)) := rfl
  generalize lv_args 0 [.ref 64, .int (nJ n)] = lv at L0 L1 ⊢
  refine E_al rfl L0 ?_
  refine E_il rfl L1 ?_
  refine E_ci 1 rfl ci1 ?_
  refine E_bin rfl (nJ_add _ _) ?_
  refine E_opf (q := (0, 9)) rfl hh rfl rfl ?_
  have h1 : HH (pt h 64 5 (nJ (n + 1))) := HH_ptn hh rfl (by omega) (by omega) (by omega)
  have F1 : fr_g TF h (pt h 64 5 (nJ (n + 1))) := fr_ptr (l := 5) (u := 6) rfl (by omega) (by omega) (fr_rf _ _)
  have g1 : gi (pt h 64 5 (nJ (n + 1))) 64 5 = nJ (n + 1) := gi_ptn hh rfl (by omega) (by omega) (by omega)
  have p1 : ∀ v, gi (pt h 64 5 (nJ (n + 1))) 65 v = gi h 65 v := fun v => gi_ne (by first | exact gxx rfl | omega)
  generalize pt h 64 5 (nJ (n + 1)) = a at h1 F1 g1 p1 ⊢
  refine E_al rfl L0 ?_
  refine E_ci 1 rfl ci1 ?_
  refine E_opf (q := (0, 9)) rfl h1 rfl rfl ?_
  have h2 : HH (pt a 64 6 (nJ 1)) := HH_ptn h1 rfl (by omega) (by omega) (by omega)
  have F2 : fr_g TF h (pt a 64 6 (nJ 1)) := fr_ptr (l := 5) (u := 6) rfl (by omega) (by omega) F1
  have g2 : gi (pt a 64 6 (nJ 1)) 64 6 = nJ 1 := gi_ptn h1 rfl (by omega) (by omega) (by omega)
  have g3 : gi (pt a 64 6 (nJ 1)) 64 5 = nJ (n + 1) := by rw [gi_ne (by first | exact gxx rfl | omega)]; exact g1
  have p2 : ∀ v, gi (pt a 64 6 (nJ 1)) 65 v = gi h 65 v := fun v => by rw [gi_ne (by first | exact gxx rfl | omega)]; exact p1 v
  generalize pt a 64 6 (nJ 1) = b at h2 F2 g2 g3 p2 ⊢
  refine E_al rfl L0 ?_
  refine E_ogr (q := 66) rfl h2 rfl rfl ?_
  refine E_ci 0 rfl ci0 ?_
  refine E_ci 0 rfl ci0 ?_
  refine E_ias rfl h2 rfl (by omega) (by decide) ?_
  have b66 : bd 66 0 = some (0, 8) := bd_u rfl (by omega)
  refine E_ret rfl ⟨rfl, HH_ptn h2 b66 (by omega) (by omega) (by omega), fr_ptr (l := 0) (u := 8) rfl (by omega) (by omega) F2, ?_, ?_, gi_ptn h2 b66 (by omega) (by omega) (by omega), fun v => ?_⟩
  · rw [gi_ne (by first | exact gxx rfl | omega)]; exact g3
  · rw [gi_ne (by first | exact gxx rfl | omega)]; exact g2
  · rw [gi_ne (by first | exact gxx rfl | omega)]; exact p2 v
theorem sp_bringT {h : pm_H} {m v f : Nat} (hh : HH h) (n8 : n ≤ 8) (hm : m ≤ n) (v8 : v ≤ 8) (f8 : f ≤ 8) (g5 : gi h 64 5 = nJ (n + 1)) (g6 : gi h 64 6 = nJ m) : Sp (d + 1) 59 h [.ref 64, .int (nJ v), .int (nJ f)] (fun h' r => r = none ∧ HH h' ∧ fr_g TF h h' ∧ gi h' 64 5 = nJ (n + 1) ∧ gi h' 64 6 = nJ (m + 1) ∧ gi h' 66 m = nJ v ∧ (∀ i, i ≠ m → gi h' 66 i = gi h 66 i) ∧ gi h' 65 v = nJ f ∧ ∀ i, i ≠ v → gi h' 65 i = gi h 65 i) := by
  refine Sp_of aiX7_bring rfl rfl rfl ?_
  have L0 : pm_get (lv_args 0 [.ref 64, .int (nJ v), .int (nJ f)]) 0 = some (.ref 64) := rfl
  have L1 : pm_get (lv_args 0 [.ref 64, .int (nJ v), .int (nJ f)]) 1 = some (.int (nJ v)) := rfl
  have L2 : pm_get (lv_args 0 [.ref 64, .int (nJ v), .int (nJ f)]) 2 = some (.int (nJ f)) := rfl
  generalize lv_args 0 [.ref 64, .int (nJ v), .int (nJ f)] = lv at L0 L1 L2 ⊢
  refine E_al rfl L0 ?_
  refine E_ogf (q := (0, 9)) rfl hh rfl rfl g6 ?_
  refine E_al rfl L0 ?_
  refine E_ogf (q := (0, 9)) rfl hh rfl rfl g5 ?_
  refine E_icF rfl (decide_eq_false (fun z => absurd ((nJ_le (by omega) (by omega)).mp z) (by omega))) ?_
  refine E_al rfl L0 ?_
  refine E_ogr (q := 65) rfl hh rfl rfl ?_
  refine E_il rfl L1 ?_
  refine E_il rfl L2 ?_
  refine E_ias rfl hh rfl (by omega) (by decide) ?_
  have b65 : bd 65 v = some (0, 8) := bd_u rfl (by omega)
  have h1 : HH (pt h 65 v (nJ f)) := HH_ptn hh b65 (by omega) (by omega) (by omega)
  have F1 : fr_g TF h (pt h 65 v (nJ f)) := fr_ptr (l := 0) (u := 8) rfl (by omega) (by omega) (fr_rf _ _)
  have k1 : gi (pt h 65 v (nJ f)) 65 v = nJ f := gi_ptn hh b65 (by omega) (by omega) (by omega)
  have k2 : ∀ i, i ≠ v → gi (pt h 65 v (nJ f)) 65 i = gi h 65 i := fun i hi => gi_ne (fun _ => hi)
  have k3 : gi (pt h 65 v (nJ f)) 64 5 = nJ (n + 1) := by rw [gi_ne (by first | exact gxx rfl | omega)]; exact g5
  have k4 : gi (pt h 65 v (nJ f)) 64 6 = nJ m := by rw [gi_ne (by first | exact gxx rfl | omega)]; exact g6
  have k5 : ∀ i, gi (pt h 65 v (nJ f)) 66 i = gi h 66 i := fun i => gi_ne (by first | exact gxx rfl | omega)
  generalize pt h 65 v (nJ f) = a at h1 F1 k1 k2 k3 k4 k5 ⊢
  refine E_al rfl L0 ?_
  refine E_ogr (q := 66) rfl h1 rfl rfl ?_
  refine E_al rfl L0 ?_
  refine E_ogf (q := (0, 9)) rfl h1 rfl rfl k4 ?_
  refine E_il rfl L1 ?_
  refine E_ias rfl h1 rfl (by omega) (by decide) ?_
  have b66 : bd 66 m = some (0, 8) := bd_u rfl (by omega)
  have h2 : HH (pt a 66 m (nJ v)) := HH_ptn h1 b66 (by omega) (by omega) (by omega)
  have F2 : fr_g TF h (pt a 66 m (nJ v)) := fr_ptr (l := 0) (u := 8) rfl (by omega) (by omega) F1
  have m1 : gi (pt a 66 m (nJ v)) 66 m = nJ v := gi_ptn h1 b66 (by omega) (by omega) (by omega)
  have m2 : ∀ i, i ≠ m → gi (pt a 66 m (nJ v)) 66 i = gi h 66 i := fun i hi => by rw [gi_ne (fun _ => hi)]; exact k5 i
  have m3 : gi (pt a 66 m (nJ v)) 64 5 = nJ (n + 1) := by rw [gi_ne (by first | exact gxx rfl | omega)]; exact k3
  have m4 : gi (pt a 66 m (nJ v)) 64 6 = nJ m := by rw [gi_ne (by first | exact gxx rfl | omega)]; exact k4
  have m5 : gi (pt a 66 m (nJ v)) 65 v = nJ f := by rw [gi_ne (by first | exact gxx rfl | omega)]; exact k1
  have m6 : ∀ i, i ≠ v → gi (pt a 66 m (nJ v)) 65 i = gi h 65 i := fun i hi => by rw [gi_ne (by first | exact gxx rfl | omega)]; exact k2 i hi
  generalize pt a 66 m (nJ v) = b at h2 F2 m1 m2 m3 m4 m5 m6 ⊢
  refine E_al rfl L0 ?_
  refine E_dup rfl rfl ?_
  refine E_ogf (q := (0, 9)) rfl h2 rfl rfl m4 ?_
  refine E_ci 1 rfl ci1 ?_
  refine E_bin rfl (nJ_add _ _) ?_
  refine E_opf (q := (0, 9)) rfl h2 rfl rfl ?_
  refine E_ret rfl ⟨rfl, HH_ptn h2 rfl (by omega) (by omega) (by omega), fr_ptr (l := 5) (u := 6) rfl (by omega) (by omega) F2, ?_, gi_ptn h2 rfl (by omega) (by omega) (by omega), ?_, fun i hi => ?_, ?_, fun i hi => ?_⟩
  · rw [gi_ne (by first | exact gxx rfl | omega)]; exact m3
  · rw [gi_ne (by first | exact gxx rfl | omega)]; exact m1
  · rw [gi_ne (by first | exact gxx rfl | omega)]; exact m2 i hi
  · rw [gi_ne (by first | exact gxx rfl | omega)]; exact m5
  · rw [gi_ne (by first | exact gxx rfl | omega)]; exact m6 i hi
theorem hn8_in {q : Nat} {Q : pm_H → Option Value → Prop} (n8 : n ≤ 8) (hq : q < n) (wb : ∀ c, c < n → 1 ≤ W c ∧ W c ≤ n) (lw : q < 1 + cw W q n) (VB : hV W n q 0 (hB W n q)) (h17 : ∀ h, fr_g TF h0 h → ∀ c, c < n → gi h 17 c = nJ (W c)) (j : Nat) : ∀ {h : pm_H} {c : Nat} (lv : List (Nat × Value)), c + j = n → HH h → fr_g TF h0 h → TRH 65 66 n q c W (hI W (q + 1) (hB W n q) c) h → gi h 64 5 = nJ (n + 1) → gi h 64 6 = nJ (hI W (q + 1) (hB W n q) c).2.2 → pm_get lv 0 = some (.ref 64) → pm_get lv 1 = some (.ref 17) → pm_get lv 2 = some (.int (nJ n)) → pm_get lv 3 = some (.int (nJ (q + 1))) → pm_get lv 4 = some (.int (nJ ((hB W n q).1 q))) → pm_get lv 5 = some (.int (nJ c)) → (∀ (h' : pm_H) (lv' : List (Nat × Value)), HH h' → fr_g TF h0 h' → TRH 65 66 n (q + 1) 0 W (hB W n (q + 1)) h' → gi h' 64 5 = nJ (n + 1) → gi h' 64 6 = nJ (hB W n (q + 1)).2.2 → pm_get lv' 0 = some (.ref 64) → pm_get lv' 1 = some (.ref 17) → pm_get lv' 2 = some (.int (nJ n)) → pm_get lv' 3 = some (.int (nJ (q + 1))) → Ends (pm_at tX7_hang) (pm_Rt pm_P (d + 1)) (55, lv', [], h', 0, 0) Q) → Ends (pm_at tX7_hang) (pm_Rt pm_P (d + 1)) (25, lv, [], h, 0, 0) Q := by
  induction j with
  | zero =>
    intro h c lv hj hh F T g5 g6 L0 L1 L2 L3 L4 L5 K
    have e : c = n := by omega
    subst e
    refine E_il rfl L5 ?_
    refine E_il rfl L2 ?_
    refine E_icT rfl (decide_eq_true ((nJ_le (by omega) (by omega)).mpr (by omega))) ?_
    exact K h lv hh F (TRH_next T) g5 g6 L0 L1 L2 L3
  | succ j ih =>
    intro h c lv hj hh F T g5 g6 L0 L1 L2 L3 L4 L5 K
    have hc : c < n := by omega
    have w := wb c hc
    have cnt := hI_c (W := W) (p := q + 1) (s := hB W n q) c
    have v1 := VB.1
    have z0 : ce W (q + 1) 0 = 0 := rfl
    refine E_il rfl L5 ?_
    refine E_il rfl L2 ?_
    refine E_icF rfl (decide_eq_false (fun z => absurd ((nJ_le (by omega) (by omega)).mp z) (by omega))) ?_
    refine E_al rfl L1 ?_
    refine E_il rfl L5 ?_
    refine E_ial rfl hh rfl (by omega) (by decide) (h17 h F c hc) ?_
    refine E_il rfl L3 ?_
    have nx : ∀ (h' : pm_H) (lv : List (Nat × Value)), HH h' → fr_g TF h0 h' → TRH 65 66 n q (c + 1) W (hI W (q + 1) (hB W n q) (c + 1)) h' → gi h' 64 5 = nJ (n + 1) → gi h' 64 6 = nJ (hI W (q + 1) (hB W n q) (c + 1)).2.2 → pm_get lv 0 = some (.ref 64) → pm_get lv 1 = some (.ref 17) → pm_get lv 2 = some (.int (nJ n)) → pm_get lv 3 = some (.int (nJ (q + 1))) → pm_get lv 4 = some (.int (nJ ((hB W n q).1 q))) → pm_get lv 5 = some (.int (nJ c)) → Ends (pm_at tX7_hang) (pm_Rt pm_P (d + 1)) (49, lv, [], h', 0, 0) Q := by
      intro h' lv hh' F' T' g5' g6' N0 N1 N2 N3 N4 N5
      refine E_inc rfl N5 (nJ_inc _) (fun lv2 K5 kp2 => ?_)
      refine E_goto rfl ?_
      exact ih lv2 (by omega) hh' F' T' g5' g6' (kp2 0 _ (nbz rfl) rfl N0) (kp2 1 _ (nbz rfl) rfl N1) (kp2 2 _ (nbz rfl) rfl N2) (kp2 3 _ (nbz rfl) rfl N3) (kp2 4 _ (nbz rfl) rfl N4) K5 K
    by_cases e : W c = q + 1
    · refine E_icF rfl (decide_eq_false (fun z => z (by rw [e]))) ?_
      have cl := ce_lt W (q + 1) hc e
      have cs := cw_succ W q n
      have cwl := cw_le W (q + 1) n
      refine E_al rfl L0 ?_
      refine E_il rfl L5 ?_
      refine E_ci 1 rfl ci1 ?_
      refine E_bin rfl (nJ_add _ _) ?_
      refine E_il rfl L4 ?_
      have f8 : (hB W n q).1 q ≤ n := hB_le VB (by omega)
      refine E_call rfl (sp_bringT (d := d) (m := (hI W (q + 1) (hB W n q) c).2.2) hh n8 (by omega) (show c + 1 ≤ 8 by omega) (show (hB W n q).1 q ≤ 8 by omega) g5 g6) (chkO (a := 64) hh rfl rfl rfl rfl (by show 0 ≤ 8; decide)) (fun h1 r1 => ?_)
      rintro ⟨e1, hh1, f1, k5, k6, b1, b2, a1, a2⟩
      rw [e1]
      refine nx h1 lv hh1 (fr_trans F f1) (TRH_add e T b1 b2 ?_ a2) k5 ?_ L0 L1 L2 L3 L4 L5
      · rw [a1, hI_lo (by omega) c]
      · rw [k6]
        show _ = nJ (hstep W (q + 1) c (hI W (q + 1) (hB W n q) c)).2.2
        unfold hstep
        rw [if_pos e]
    · refine E_icT rfl (decide_eq_true (fun z => e ((nJ_eq (by omega) (by omega)).mp z))) ?_
      refine nx h lv hh F (TRH_skip e T) g5 ?_ L0 L1 L2 L3 L4 L5
      rw [g6]
      show _ = nJ (hstep W (q + 1) c (hI W (q + 1) (hB W n q) c)).2.2
      unfold hstep
      rw [if_neg e]
theorem hn8_out (n8 : n ≤ 8) (wb : ∀ c, c < n → 1 ≤ W c ∧ W c ≤ n) (lw : ∀ q, 1 ≤ q → q ≤ n → q ≤ cw W q n) (h17 : ∀ h, fr_g TF h0 h → ∀ c, c < n → gi h 17 c = nJ (W c)) (j : Nat) : ∀ {h : pm_H} {q : Nat} (lv : List (Nat × Value)), q + j = n → HH h → fr_g TF h0 h → TRH 65 66 n q 0 W (hB W n q) h → gi h 64 5 = nJ (n + 1) → gi h 64 6 = nJ (hB W n q).2.2 → pm_get lv 0 = some (.ref 64) → pm_get lv 1 = some (.ref 17) → pm_get lv 2 = some (.int (nJ n)) → pm_get lv 3 = some (.int (nJ (q + 1))) → Ends (pm_at tX7_hang) (pm_Rt pm_P (d + 1)) (7, lv, [], h, 0, 0) (fun h' r => r = none ∧ HH h' ∧ fr_g TF h0 h' ∧ TRX 65 66 n (hB W n n).1 (hB W n n).2.1 h' ∧ gi h' 64 5 = nJ (n + 1)) := by
  have w1 : ∀ c, c < n → 1 ≤ W c := fun c hc => (wb c hc).1
  induction j with
  | zero =>
    intro h q lv hj hh F T g5 g6 L0 L1 L2 L3
    have e : q = n := by omega
    subst e
    refine E_il rfl L3 ?_
    refine E_il rfl L2 ?_
    refine E_icT rfl (decide_eq_true ((nJ_lt (by omega) (by omega)).mpr (by omega))) ?_
    exact E_ret rfl ⟨rfl, hh, F, TRH_end wb (hV_B w1 lw (Nat.le_refl q)) T, g5⟩
  | succ j ih =>
    intro h q lv hj hh F T g5 g6 L0 L1 L2 L3
    have VB := hV_B w1 lw (show q ≤ n by omega)
    have lq : q < 1 + cw W q n := by
      rcases Nat.eq_zero_or_pos q with z | z
      · omega
      · have := lw q z (by omega); omega
    have v1 := VB.1
    have z0 : ce W (q + 1) 0 = 0 := rfl
    refine E_il rfl L3 ?_
    refine E_il rfl L2 ?_
    refine E_icF rfl (decide_eq_false (fun z => absurd ((nJ_lt (by omega) (by omega)).mp z) (by omega))) ?_
    refine E_al rfl L0 ?_
    refine E_ogr (q := 66) rfl hh rfl rfl ?_
    refine E_il rfl L3 ?_
    refine E_ci 1 rfl ci1 ?_
    refine E_bin rfl (show nJ (q + 1) - nJ 1 = nJ q from nJ_sub (by omega)) ?_
    refine E_ial rfl hh rfl (by omega) (by decide) (T.1 q (by omega)) ?_
    refine E_is rfl (fun lv1 K4 kp => ?_)
    refine E_ci 0 rfl ci0 ?_
    refine E_is rfl (fun lv2 K5 kp2 => ?_)
    refine hn8_in n8 (show q < n by omega) wb lq VB h17 n (c := 0) lv2 (by omega) hh F T g5 g6 (kp2 0 _ (nbz rfl) rfl (kp 0 _ (nbz rfl) rfl L0)) (kp2 1 _ (nbz rfl) rfl (kp 1 _ (nbz rfl) rfl L1)) (kp2 2 _ (nbz rfl) rfl (kp 2 _ (nbz rfl) rfl L2)) (kp2 3 _ (nbz rfl) rfl (kp 3 _ (nbz rfl) rfl L3)) (kp2 4 _ (nbz rfl) rfl K4) K5 (fun h' lv' hh' F' T' g5' g6' M0 M1 M2 M3 => ?_)
    refine E_inc rfl M3 (nJ_inc _) (fun lv3 K3 kp3 => ?_)
    refine E_goto rfl ?_
    exact ih lv3 (by omega) hh' F' T' g5' g6' (kp3 0 _ (nbz rfl) rfl M0) (kp3 1 _ (nbz rfl) rfl M1) (kp3 2 _ (nbz rfl) rfl M2) K3
theorem sp_hang8 {h : pm_H} (hh : HH h) (n8 : n ≤ 8) (wb : ∀ c, c < n → 1 ≤ W c ∧ W c ≤ n) (lw : ∀ q, 1 ≤ q → q ≤ n → q ≤ cw W q n) (h17 : ∀ c, c < n → gi h 17 c = nJ (W c)) : Sp (d + 2) 63 h [.ref 64, .ref 17, .int (nJ n)] (fun h' r => r = none ∧ HH h' ∧ fr_g TF h h' ∧ TRX 65 66 n (hB W n n).1 (hB W n n).2.1 h' ∧ gi h' 64 5 = nJ (n + 1)) := by
  refine Sp_of aiX7_hang rfl rfl rfl ?_
  have L0 : pm_get (lv_args 0 [.ref 64, .ref 17, .int (nJ n)]) 0 = some (.ref 64) := rfl
  have L1 : pm_get (lv_args 0 [.ref 64, .ref 17, .int (nJ n)]) 1 = some (.ref 17) := rfl
  have L2 : pm_get (lv_args 0 [.ref 64, .ref 17, .int (nJ n)]) 2 = some (.int (nJ n)) := rfl
  generalize lv_args 0 [.ref 64, .ref 17, .int (nJ n)] = lv at L0 L1 L2 ⊢
  refine E_al rfl L0 ?_
  refine E_il rfl L2 ?_
  refine E_call rfl (sp_beginT (d := d) hh n8) (chkO (a := 64) hh rfl rfl rfl rfl (by show 0 ≤ 8; decide)) (fun h1 r1 => ?_)
  rintro ⟨e1, hh1, f1, k5, k6, b0, a0⟩
  rw [e1]
  refine E_ci 1 rfl ci1 ?_
  refine E_is rfl (fun lv1 K3 kp => ?_)
  refine hn8_out (h0 := h) n8 wb lw (fun g f c hc => by rw [fr_gi f (rg_no rfl _)]; exact h17 c hc) n (q := 0) lv1 (by omega) hh1 f1 ⟨fun i hi => ?_, fun c hc p => ?_⟩ k5 k6 (kp 0 _ (nbz rfl) rfl L0) (kp 1 _ (nbz rfl) rfl L1) (kp 2 _ (nbz rfl) rfl L2) K3
  · have hi : i < 1 := hi
    rw [show i = 0 by omega]; exact b0
  · have := (wb c hc).1
    rcases p with p | ⟨_, p⟩ <;> omega
/-! the reference -/
theorem hn9_in {q : Nat} {Q : pm_H → Option Value → Prop} (n8 : n ≤ 8) (hq : q < n) (wb : ∀ c, c < n → 1 ≤ W c ∧ W c ≤ n) (lw : q < 1 + cw W q n) (VB : hV W n q 0 (hB W n q)) (h89 : ∀ h, fr_g LM h0 h → gn h 84 3 = n ∧ ∀ c, c < n → gi h 89 c = nJ (W c)) (j : Nat) : ∀ {h : pm_H} {c : Nat} (lv : List (Nat × Value)), c + j = n → HH h → fr_g LM h0 h → TRH 92 93 n q c W (hI W (q + 1) (hB W n q) c) h → pm_get lv 0 = some (.ref 77) → pm_get lv 1 = some (.int (nJ (hI W (q + 1) (hB W n q) c).2.2)) → pm_get lv 2 = some (.int (nJ (q + 1))) → pm_get lv 3 = some (.int (nJ c)) → (∀ (h' : pm_H) (lv' : List (Nat × Value)), HH h' → fr_g LM h0 h' → TRH 92 93 n (q + 1) 0 W (hB W n (q + 1)) h' → pm_get lv' 0 = some (.ref 77) → pm_get lv' 1 = some (.int (nJ (hB W n (q + 1)).2.2)) → pm_get lv' 2 = some (.int (nJ (q + 1))) → Ends (pm_at tX9_laysTree) (pm_Rt pm_P (d + 1)) (76, lv', [], h', 0, 0) Q) → Ends (pm_at tX9_laysTree) (pm_Rt pm_P (d + 1)) (21, lv, [], h, 0, 0) Q := by
  induction j with
  | zero =>
    intro h c lv hj hh F T L0 L1 L2 L3 K
    have e : c = n := by omega
    have u3 := (h89 h F).1
    refine E_il rfl L3 ?_
    refine E_al rfl L0 ?_
    refine E_call rfl (sp_cars (d := d) hh) (chk77 hh rfl rfl (by show 1 ≤ 8; decide)) (fun h1 r1 => ?_)
    rintro ⟨e1, f1, -⟩
    rw [e1, f1, u3]
    subst e
    refine E_icT rfl (decide_eq_true ((nJ_le (by omega) (by omega)).mpr (by omega))) ?_
    exact K h lv hh F (TRH_next T) L0 L1 L2
  | succ j ih =>
    intro h c lv hj hh F T L0 L1 L2 L3 K
    have hc : c < n := by omega
    have w := wb c hc
    obtain ⟨u3, u9⟩ := h89 h F
    have cnt := hI_c (W := W) (p := q + 1) (s := hB W n q) c
    have v1 := VB.1
    have z0 : ce W (q + 1) 0 = 0 := rfl
    refine E_il rfl L3 ?_
    refine E_al rfl L0 ?_
    refine E_call rfl (sp_cars (d := d) hh) (chk77 hh rfl rfl (by show 1 ≤ 8; decide)) (fun h1 r1 => ?_)
    rintro ⟨e1, f1, -⟩
    rw [e1, f1, u3]
    refine E_icF rfl (decide_eq_false (fun z => absurd ((nJ_le (by omega) (by omega)).mp z) (by omega))) ?_
    refine E_al rfl L0 ?_
    refine E_gr rfl hh (q := 89) rfl ?_
    refine E_il rfl L3 ?_
    refine E_ial rfl hh rfl (by omega) (by decide) (u9 c hc) ?_
    refine E_il rfl L2 ?_
    have nx : ∀ (h' : pm_H) (lv : List (Nat × Value)), HH h' → fr_g LM h0 h' → TRH 92 93 n q (c + 1) W (hI W (q + 1) (hB W n q) (c + 1)) h' → pm_get lv 0 = some (.ref 77) → pm_get lv 1 = some (.int (nJ (hI W (q + 1) (hB W n q) (c + 1)).2.2)) → pm_get lv 2 = some (.int (nJ (q + 1))) → pm_get lv 3 = some (.int (nJ c)) → Ends (pm_at tX9_laysTree) (pm_Rt pm_P (d + 1)) (70, lv, [], h', 0, 0) Q := by
      intro h' lv hh' F' T' N0 N1 N2 N3
      refine E_inc rfl N3 (nJ_inc _) (fun lv2 K3 kp2 => ?_)
      refine E_goto rfl ?_
      exact ih lv2 (by omega) hh' F' T' (kp2 0 _ (nbz rfl) rfl N0) (kp2 1 _ (nbz rfl) rfl N1) (kp2 2 _ (nbz rfl) rfl N2) K3 K
    have eI : hI W (q + 1) (hB W n q) (c + 1) = hstep W (q + 1) c (hI W (q + 1) (hB W n q) c) := rfl
    by_cases e : W c = q + 1
    · refine E_icT rfl (decide_eq_true (by rw [e])) ?_
      have cl := ce_lt W (q + 1) hc e
      have cs := cw_succ W q n
      have cwl := cw_le W (q + 1) n
      have f8 : (hB W n q).1 q ≤ n := hB_le VB (by omega)
      have eq : (hI W (q + 1) (hB W n q) c).1 q = (hB W n q).1 q := hI_lo (by omega) c
      have tq := T.1 q (by omega)
      refine E_al rfl L0 ?_
      refine E_gr rfl hh (q := 92) rfl ?_
      refine E_il rfl L3 ?_
      refine E_ci 1 rfl ci1 ?_
      refine E_bin rfl (nJ_add _ _) ?_
      refine E_al rfl L0 ?_
      refine E_gr rfl hh (q := 93) rfl ?_
      refine E_il rfl L2 ?_
      refine E_ci 1 rfl ci1 ?_
      refine E_bin rfl (show nJ (q + 1) - nJ 1 = nJ q from nJ_sub (by omega)) ?_
      refine E_ial rfl hh rfl (by omega) (by decide) tq ?_
      refine E_ias rfl hh rfl (by omega) (by decide) ?_
      have b92 : bd 92 (c + 1) = some (0, 8) := bd_u rfl (by omega)
      rw [eq] at tq ⊢
      have h1 : HH (pt h 92 (c + 1) (nJ ((hB W n q).1 q))) := HH_ptn hh b92 (by omega) (by omega) (by omega)
      have F1 : fr_g LM h0 (pt h 92 (c + 1) (nJ ((hB W n q).1 q))) := fr_ptr (l := 0) (u := 8) rfl (by omega) (by omega) F
      have k1 : gi (pt h 92 (c + 1) (nJ ((hB W n q).1 q))) 92 (c + 1) = nJ ((hB W n q).1 q) := gi_ptn hh b92 (by omega) (by omega) (by omega)
      have k2 : ∀ i, i ≠ c + 1 → gi (pt h 92 (c + 1) (nJ ((hB W n q).1 q))) 92 i = gi h 92 i := fun i hi => gi_ne (fun _ => hi)
      have k3 : ∀ i, gi (pt h 92 (c + 1) (nJ ((hB W n q).1 q))) 93 i = gi h 93 i := fun i => gi_ne (by first | exact gxx rfl | omega)
      generalize pt h 92 (c + 1) (nJ ((hB W n q).1 q)) = a at h1 F1 k1 k2 k3 ⊢
      refine E_al rfl L0 ?_
      refine E_gr rfl h1 (q := 93) rfl ?_
      refine E_il rfl L1 ?_
      refine E_il rfl L3 ?_
      refine E_ci 1 rfl ci1 ?_
      refine E_bin rfl (nJ_add _ _) ?_
      refine E_ias rfl h1 rfl (by omega) (by decide) ?_
      have b93 : bd 93 (hI W (q + 1) (hB W n q) c).2.2 = some (0, 8) := bd_u rfl (by omega)
      have h2 : HH (pt a 93 (hI W (q + 1) (hB W n q) c).2.2 (nJ (c + 1))) := HH_ptn h1 b93 (by omega) (by omega) (by omega)
      have F2 : fr_g LM h0 (pt a 93 (hI W (q + 1) (hB W n q) c).2.2 (nJ (c + 1))) := fr_ptr (l := 0) (u := 8) rfl (by omega) (by omega) F1
      have m1 : gi (pt a 93 (hI W (q + 1) (hB W n q) c).2.2 (nJ (c + 1))) 93 (hI W (q + 1) (hB W n q) c).2.2 = nJ (c + 1) := gi_ptn h1 b93 (by omega) (by omega) (by omega)
      have m2 : ∀ i, i ≠ (hI W (q + 1) (hB W n q) c).2.2 → gi (pt a 93 (hI W (q + 1) (hB W n q) c).2.2 (nJ (c + 1))) 93 i = gi h 93 i := fun i hi => by rw [gi_ne (fun _ => hi)]; exact k3 i
      have m3 : ∀ i, gi (pt a 93 (hI W (q + 1) (hB W n q) c).2.2 (nJ (c + 1))) 92 i = gi a 92 i := fun i => gi_ne (by first | exact gxx rfl | omega)
      generalize pt a 93 (hI W (q + 1) (hB W n q) c).2.2 (nJ (c + 1)) = b at h2 F2 m1 m2 m3 ⊢
      refine E_inc rfl L1 (nJ_inc _) (fun lv2 K1 kp2 => ?_)
      refine nx b lv2 h2 F2 (TRH_add e T m1 m2 (by rw [m3, eq]; exact k1) (fun i hi => by rw [m3]; exact k2 i hi)) (kp2 0 _ (nbz rfl) rfl L0) ?_ (kp2 2 _ (nbz rfl) rfl L2) (kp2 3 _ (nbz rfl) rfl L3)
      rw [eI]
      unfold hstep
      rw [if_pos e]
      exact K1
    · refine E_icF rfl (decide_eq_false (fun z => e ((nJ_eq (by omega) (by omega)).mp z))) ?_
      refine E_goto rfl ?_
      refine nx h lv hh F (TRH_skip e T) L0 ?_ L2 L3
      rw [eI]
      unfold hstep
      rw [if_neg e]
      exact L1
theorem hn9_out (n8 : n ≤ 8) (wb : ∀ c, c < n → 1 ≤ W c ∧ W c ≤ n) (lw : ∀ q, 1 ≤ q → q ≤ n → q ≤ cw W q n) (h84 : ∀ h, fr_g LM h0 h → gn h 84 0 = n) (h89 : ∀ h, fr_g LM h0 h → gn h 84 3 = n ∧ ∀ c, c < n → gi h 89 c = nJ (W c)) (j : Nat) : ∀ {h : pm_H} {q : Nat} (lv : List (Nat × Value)), q + j = n → HH h → fr_g LM h0 h → TRH 92 93 n q 0 W (hB W n q) h → pm_get lv 0 = some (.ref 77) → pm_get lv 1 = some (.int (nJ (hB W n q).2.2)) → pm_get lv 2 = some (.int (nJ (q + 1))) → Ends (pm_at tX9_laysTree) (pm_Rt pm_P (d + 1)) (11, lv, [], h, 0, 0) (fun h' r => r = none ∧ HH h' ∧ fr_g LM h0 h' ∧ TRX 92 93 n (hB W n n).1 (hB W n n).2.1 h') := by
  have w1 : ∀ c, c < n → 1 ≤ W c := fun c hc => (wb c hc).1
  induction j with
  | zero =>
    intro h q lv hj hh F T L0 L1 L2
    have e : q = n := by omega
    refine E_il rfl L2 ?_
    refine E_al rfl L0 ?_
    refine E_call rfl (sp_places (d := d) hh) (chk77 hh rfl rfl (by show 1 ≤ 8; decide)) (fun h1 r1 => ?_)
    rintro ⟨e1, f1, -⟩
    rw [e1, f1, h84 h F]
    subst e
    refine E_icT rfl (decide_eq_true ((nJ_lt (by omega) (by omega)).mpr (by omega))) ?_
    exact E_ret rfl ⟨rfl, hh, F, TRH_end wb (hV_B w1 lw (Nat.le_refl q)) T⟩
  | succ j ih =>
    intro h q lv hj hh F T L0 L1 L2
    have VB := hV_B w1 lw (show q ≤ n by omega)
    have lq : q < 1 + cw W q n := by
      rcases Nat.eq_zero_or_pos q with z | z
      · omega
      · have := lw q z (by omega); omega
    refine E_il rfl L2 ?_
    refine E_al rfl L0 ?_
    refine E_call rfl (sp_places (d := d) hh) (chk77 hh rfl rfl (by show 1 ≤ 8; decide)) (fun h1 r1 => ?_)
    rintro ⟨e1, f1, -⟩
    rw [e1, f1, h84 h F]
    refine E_icF rfl (decide_eq_false (fun z => absurd ((nJ_lt (by omega) (by omega)).mp z) (by omega))) ?_
    refine E_ci 0 rfl ci0 ?_
    refine E_is rfl (fun lv2 K3 kp2 => ?_)
    refine hn9_in n8 (show q < n by omega) wb lq VB h89 n (c := 0) lv2 (by omega) hh F T (kp2 0 _ (nbz rfl) rfl L0) (kp2 1 _ (nbz rfl) rfl L1) (kp2 2 _ (nbz rfl) rfl L2) K3 (fun h' lv' hh' F' T' M0 M1 M2 => ?_)
    refine E_inc rfl M2 (nJ_inc _) (fun lv3 K2 kp3 => ?_)
    refine E_goto rfl ?_
    exact ih lv3 (by omega) hh' F' T' (kp3 0 _ (nbz rfl) rfl M0) (kp3 1 _ (nbz rfl) rfl M1) K2
theorem sp_laysTreeX {h : pm_H} (hh : HH h) (n8 : n ≤ 8) (wb : ∀ c, c < n → 1 ≤ W c ∧ W c ≤ n) (lw : ∀ q, 1 ≤ q → q ≤ n → q ≤ cw W q n) (h84 : gn h 84 0 = n) (h843 : gn h 84 3 = n) (h89 : ∀ c, c < n → gi h 89 c = nJ (W c)) : Sp (d + 2) 299 h [.ref 77] (fun h' r => r = none ∧ HH h' ∧ fr_g LM h h' ∧ TRX 92 93 n (hB W n n).1 (hB W n n).2.1 h') := by
  refine Sp_of aiX9_laysTree rfl rfl rfl ?_
  have L0 : pm_get (lv_args 0 [.ref 77]) 0 = some (.ref 77) := rfl
  generalize lv_args 0 [.ref 77] = lv at L0 ⊢
  refine E_ci 1 rfl ci1 ?_
  refine E_is rfl (fun lv1 K1 kp => ?_)
  refine E_al rfl (kp 0 _ (nbz rfl) rfl L0) ?_
  refine E_gr rfl hh (q := 93) rfl ?_
  refine E_ci 0 rfl ci0 ?_
  refine E_ci 0 rfl ci0 ?_
  refine E_ias rfl hh rfl (by omega) (by decide) ?_
  have b93 : bd 93 0 = some (0, 8) := bd_u rfl (by omega)
  have h1 : HH (pt h 93 0 (nJ 0)) := HH_ptn hh b93 (by omega) (by omega) (by omega)
  have F1 : fr_g LM h (pt h 93 0 (nJ 0)) := fr_ptr (l := 0) (u := 8) rfl (by omega) (by omega) (fr_rf _ _)
  have k1 : gi (pt h 93 0 (nJ 0)) 93 0 = nJ 0 := gi_ptn hh b93 (by omega) (by omega) (by omega)
  generalize pt h 93 0 (nJ 0) = a at h1 F1 k1 ⊢
  refine E_ci 1 rfl ci1 ?_
  refine E_is rfl (fun lv2 K2 kp2 => ?_)
  refine hn9_out (h0 := h) n8 wb lw (fun g f => by rw [fr_gn f (rg_no rfl _)]; exact h84) (fun g f => ⟨by rw [fr_gn f (rg_no rfl _)]; exact h843, fun c hc => by rw [fr_gi f (rg_no rfl _)]; exact h89 c hc⟩) n (q := 0) lv2 (by omega) h1 F1 ⟨fun i hi => ?_, fun c hc p => ?_⟩ (kp2 0 _ (nbz rfl) rfl (kp 0 _ (nbz rfl) rfl L0)) (kp2 1 _ (nbz rfl) rfl K1) K2
  · have hi : i < 1 := hi
    rw [show i = 0 by omega]; exact k1
  · have := (wb c hc).1
    rcases p with p | ⟨_, p⟩ <;> omega
end HNG
end
section
/-! questions of a tree: limbs, turned pairs, what hangs from a node: both (wants u96) -/
/-- a tree of n nodes and 0 -/
noncomputable def DT (n : Nat) (pa : Nat → Nat) : Prop := ∀ v, 1 ≤ v → v ≤ n → dep pa n v ∧ pa v ≤ n
theorem DT_d {n : Nat} {pa : Nat → Nat} (D : DT n pa) {v : Nat} (hv : v ≤ n) : dep pa n v := by
  by_cases z : v = 0
  · rw [z]; exact dep_zero pa n
  · exact (D v (by omega) hv).1
section TRE
variable {h : pm_H} {d n : Nat} {pa : Nat → Nat}
/-! turned pairs: the class -/
/-! what hangs from a node: the class -/
/-! the reference -/
/-! the street's tree -/
noncomputable def oT (h : pm_H) : Nat → Nat := (hB (W9 h) (N9 h) (N9 h)).1
noncomputable def pT (h : pm_H) : Nat → Nat := (hB (W9 h) (N9 h) (N9 h)).2.1
theorem pT_K {h h' : pm_H} (k : K9 h h') : pT h' = pT h := by unfold pT; rw [W9_K k, N9_K k]
noncomputable def tqv (b : Prop) [Decidable b] (h : pm_H) (v : Int32) : Int32 := if b then (if LW9 h = true then v else -1) else -2
theorem zb_dec {p : Prop} [Decidable p] : zb p = zb (decide p = true) := by
  by_cases b : p
  · rw [zb_T b, zb_T (decide_eq_true b)]
  · rw [zb_F b, zb_F (by rw [decide_eq_false b]; decide)]
theorem LW_wb (L : LW9 h = true) (B : B9 h) : N9 h = P9 h ∧ (∀ c, c < N9 h → 1 ≤ W9 h c ∧ W9 h c ≤ N9 h) ∧ ∀ q, 1 ≤ q → q ≤ N9 h → q ≤ cw (W9 h) q (N9 h) := by
  obtain ⟨a, b⟩ := LW9_iff.mp L
  exact ⟨a, fun c hc => by rw [a]; exact B c hc, fun q q1 qn => b q q1 (by omega)⟩
theorem DT_T (L : LW9 h = true) (B : B9 h) : DT (N9 h) (pT h) := by
  obtain ⟨a, wb, lw⟩ := LW_wb L B
  exact hB_dep wb (hV_B (fun c hc => (wb c hc).1) lw (Nat.le_refl _))
/-- a tree of n nodes in both objects -/
theorem sp_hangTree8 {s : Bool} (hh : HH h) (R : QRE h) : Sp (d + 4) 113 h [.ref 0, .int (zb (s = true))] (fun h' r => (¬ (s = true ∧ LW9 h = true) ∧ h' = h ∧ r = some (.int (if s = true then -1 else -2))) ∨ (s = true ∧ LW9 h = true ∧ r = some (.int (nJ 0)) ∧ HH h' ∧ fr_g TF h h' ∧ TRX 65 66 (N9 h) (oT h) (pT h) h' ∧ gi h' 64 5 = nJ (N9 h + 1))) := by
  obtain ⟨l3, p8, n8⟩ := g9s hh
  have F := CW8_of hh R
  have B := B9_of R
  refine Sp_of aiX8_hangTree rfl rfl rfl ?_
  have L0 : pm_get (lv_args 0 [.ref 0, .int (zb (s = true))]) 0 = some (.ref 0) := rfl
  have L1 : pm_get (lv_args 0 [.ref 0, .int (zb (s = true))]) 1 = some (.int (zb (s = true))) := rfl
  generalize lv_args 0 [.ref 0, .int (zb (s = true))] = lv at L0 L1 ⊢
  refine E_al rfl L0 ?_
  refine E_il rfl L1 ?_
  refine E_call rfl (sp_rowRefusal8 (d := d) (s := s) hh F B) (chkO (a := 0) hh rfl rfl rfl rfl (by show 0 ≤ 8; decide)) (fun h1 r1 => ?_)
  rintro ⟨e1, f1⟩
  rw [e1, f1]
  refine E_is rfl (fun lv1 K2 kp => ?_)
  have A0 := kp 0 _ (nbz rfl) rfl L0
  refine E_il rfl K2 ?_
  by_cases b : s = true ∧ LW9 h = true
  · rw [if_pos b.1, if_pos b.2] at K2 ⊢
    obtain ⟨a, wb, lw⟩ := LW_wb b.2 B
    have f0 := F.2.1
    rw [← a] at f0
    refine E_ifF rfl (by decide) ?_
    refine E_al rfl A0 ?_
    refine E_ogr (q := 64) rfl hh rfl rfl ?_
    refine E_al rfl A0 ?_
    refine E_ogr (q := 15) rfl hh rfl rfl ?_
    refine E_ogr (q := 17) rfl hh rfl rfl ?_
    refine E_al rfl A0 ?_
    refine E_ogr (q := 15) rfl hh rfl rfl ?_
    refine E_ogf (q := (0, 8)) rfl hh rfl rfl f0 ?_
    refine E_call rfl (Sp_le (by first | exact Nat.add_le_add_left (Nat.le_of_ble_eq_true rfl) _ | exact Nat.le_of_ble_eq_true rfl | omega) (sp_hang8 (d := d) hh n8 wb lw F.2.2)) (chkO (a := 64) hh rfl rfl rfl rfl (by show 0 ≤ 8; decide)) (fun h2 r2 => ?_)
    rintro ⟨e2, hh2, f2, T2, k5⟩
    rw [e2]
    refine E_il rfl K2 ?_
    exact E_rti rfl (.inr ⟨b.1, b.2, rfl, hh2, f2, T2, k5⟩)
  · have e : (if s = true then (if LW9 h = true then (0 : Int32) else -1) else -2) = if s = true then -1 else -2 := by
      by_cases c : s = true
      · rw [if_pos c, if_pos c, if_neg (fun q => b ⟨c, q⟩)]
      · rw [if_neg c, if_neg c]
    rw [e] at K2 ⊢
    refine E_ifT rfl (decide_eq_true (by split <;> decide)) ?_
    refine E_il rfl K2 ?_
    exact E_rti rfl (.inl ⟨b, rfl, rfl⟩)
end TRE
end
section
/-! limbs as masks: near of the class (wants u97) -/
theorem msk_or : ∀ m : Fin 512, ∀ c : Fin 9, isB m.val c.val = true → nJ m.val ||| nJ (2 ^ c.val) = nJ m.val := by decide +kernel
theorem or_any {m c : Nat} (hm : m < 512) (hc : c < 9) : ∃ m', m' < 512 ∧ nJ m ||| nJ (2 ^ c) = nJ m' ∧ ∀ j, j < 9 → isB m' j = (j == c || isB m j) := by
  cases b : isB m c
  · exact ⟨m + 2 ^ c, isB_add_lt hm hc b, or2_tab ⟨m, hm⟩ ⟨c, hc⟩ b, fun j hj => isB_add hm hc hj b⟩
  · refine ⟨m, hm, msk_or ⟨m, hm⟩ ⟨c, hc⟩ b, fun j hj => ?_⟩
    by_cases e : j = c
    · rw [e, b, Bool.or_true]
    · rw [show (j == c) = false from beq_eq_false_iff_ne.mpr e, Bool.false_or]
theorem an_tab : ∀ m : Fin 512, ∀ v : Fin 9, isB m.val v.val = true → nJ m.val &&& (nJ (2 ^ v.val) ^^^ (-1)) = nJ (m.val - 2 ^ v.val) := by decide +kernel
theorem an_tab2 : ∀ m : Fin 512, ∀ v : Fin 9, isB m.val v.val = true → 2 ^ v.val ≤ m.val ∧ isB (m.val - 2 ^ v.val) v.val = false := by decide +kernel
theorem an_any {m c : Nat} (hm : m < 512) (hc : c < 9) (b : isB m c = true) : ∃ m', m' < 512 ∧ nJ m &&& (nJ (2 ^ c) ^^^ (-1)) = nJ m' ∧ ∀ j, j < 9 → isB m' j = (!(j == c) && isB m j) := by
  obtain ⟨l, z⟩ := an_tab2 ⟨m, hm⟩ ⟨c, hc⟩ b
  dsimp only at l z
  have l2 : m - 2 ^ c < 512 := Nat.lt_of_le_of_lt (Nat.sub_le _ _) hm
  refine ⟨m - 2 ^ c, l2, an_tab ⟨m, hm⟩ ⟨c, hc⟩ b, fun j hj => ?_⟩
  have e := isB_add (m := m - 2 ^ c) (c := c) (j := j) l2 hc hj z
  rw [show m - 2 ^ c + 2 ^ c = m by omega] at e
  rw [e]
  by_cases q : j = c
  · rw [q, z, show (c == c) = true from beq_self_eq_true _]; rfl
  · rw [show (j == c) = false from beq_eq_false_iff_ne.mpr q, Bool.false_or]; rfl
theorem pct_tab : ∀ m : Fin 512, pcT m.val = pcn m.val 9 := by decide +kernel
theorem pcn_none {m : Nat} : ∀ {k : Nat}, (∀ j, j < k → isB m j = false) → pcn m k = 0
  | 0, _ => rfl
  | k + 1, z => by
    have e : pcn m (k + 1) = pcn m k + (if isB m k = true then 1 else 0) := rfl
    rw [e, pcn_none (k := k) (fun j hj => z j (by omega)), if_neg (fun q => by rw [z k (by omega)] at q; cases q)]
theorem pcn_ex {m : Nat} : ∀ {k : Nat}, pcn m k ≠ 0 → ∃ j, j < k ∧ isB m j = true
  | 0, q => absurd rfl q
  | k + 1, q => by
    cases b : isB m k
    · have e : pcn m (k + 1) = pcn m k := by
        show pcn m k + (if isB m k = true then 1 else 0) = _
        rw [if_neg (fun q => by rw [b] at q; cases q)]; rfl
      rw [e] at q
      obtain ⟨j, h1, h2⟩ := pcn_ex q
      exact ⟨j, by omega, h2⟩
    · exact ⟨k, by omega, b⟩
/-- more bits that are none -/
theorem pcn_more {m k : Nat} (z : ∀ j, k ≤ j → j < 9 → isB m j = false) : ∀ i, k + i ≤ 9 → pcn m (k + i) = pcn m k
  | 0, _ => rfl
  | i + 1, h => by
    have e : pcn m (k + (i + 1)) = pcn m (k + i) + (if isB m (k + i) = true then 1 else 0) := rfl
    rw [e, pcn_more z i (by omega), if_neg (fun q => by rw [z (k + i) (by omega) (by omega)] at q; cases q)]; rfl
/-- one mask, its bits -/
noncomputable def NR (p : Nat → Nat → Bool) (v : Nat) (h : pm_H) : Prop := ∃ m, m < 512 ∧ gi h 68 v = nJ m ∧ ∀ j, j < 9 → isB m j = p j v
theorem NR_cg {p q : Nat → Nat → Bool} {v : Nat} {h : pm_H} (e : ∀ j, j < 9 → p j v = q j v) (N : NR p v h) : NR q v h := by
  obtain ⟨m, h1, h2, h3⟩ := N
  exact ⟨m, h1, h2, fun j hj => by rw [h3 j hj, e j hj]⟩
noncomputable def NF : List Rng := [(68, 0, 8)]
noncomputable def one (p : Nat → Nat → Bool) (a b : Nat) : Nat → Nat → Bool := fun j v => (v == a && j == b) || p j v
section LMB
variable {h : pm_H} {d : Nat}
theorem NR_or {n a b : Nat} {p : Nat → Nat → Bool} (hh : HH h) (n8 : n ≤ 8) (ha : a ≤ n) (hb : b ≤ 8) (N : ∀ v, v ≤ n → NR p v h) : ∃ m m', gi h 68 a = nJ m ∧ nJ m ||| nJ (2 ^ b) = nJ m' ∧ HH (pt h 68 a (nJ m')) ∧ ∀ v, v ≤ n → NR (one p a b) v (pt h 68 a (nJ m')) := by
  obtain ⟨m, hm, gm, bm⟩ := N a ha
  obtain ⟨m', hm', om, bm'⟩ := or_any hm (show b < 9 by omega)
  have b68 : bd 68 a = some (0, 511) := bd_u rfl (by omega)
  refine ⟨m, m', gm, om, HH_ptn hh b68 (by omega) (by omega) (by omega), fun v hv => ?_⟩
  by_cases e : v = a
  · refine ⟨m', hm', by rw [e]; exact gi_ptn hh b68 (by omega) (by omega) (by omega), fun j hj => ?_⟩
    rw [bm' j hj, bm j hj, e]
    show _ = ((a == a && j == b) || p j a)
    rw [beq_self_eq_true, Bool.true_and]
  · obtain ⟨k, hk, gk, bk⟩ := N v hv
    refine ⟨k, hk, by rw [gi_ne (fun _ => e)]; exact gk, fun j hj => ?_⟩
    rw [bk j hj]
    show _ = ((v == a && j == b) || p j v)
    rw [show (v == a) = false from beq_eq_false_iff_ne.mpr e, Bool.false_and, Bool.false_or]
theorem sp_addLimb8 {n a b : Nat} {p : Nat → Nat → Bool} (hh : HH h) (n8 : n ≤ 8) (ha : a ≤ n) (hb : b ≤ n) (N : ∀ v, v ≤ n → NR p v h) : Sp (d + 1) 57 h [.ref 64, .int (nJ a), .int (nJ b)] (fun h' r => r = none ∧ HH h' ∧ fr_g NF h h' ∧ ∀ v, v ≤ n → NR (one (one p a b) b a) v h') := by
  refine Sp_of aiX7_addLimb rfl rfl rfl ?_
  have L0 : pm_get (lv_args 0 [.ref 64, .int (nJ a), .int (nJ b)]) 0 = some (.ref 64) := rfl
  have L1 : pm_get (lv_args 0 [.ref 64, .int (nJ a), .int (nJ b)]) 1 = some (.int (nJ a)) := rfl
  have L2 : pm_get (lv_args 0 [.ref 64, .int (nJ a), .int (nJ b)]) 2 = some (.int (nJ b)) := rfl
  generalize lv_args 0 [.ref 64, .int (nJ a), .int (nJ b)] = lv at L0 L1 L2 ⊢
  obtain ⟨m, m', g1, o1, h1, N1⟩ := NR_or hh n8 ha (show b ≤ 8 by omega) N
  obtain ⟨k, k', g2, o2, h2, N2⟩ := NR_or h1 n8 hb (show a ≤ 8 by omega) N1
  refine E_al rfl L0 ?_
  refine E_ogr (q := 68) rfl hh rfl rfl ?_
  refine E_il rfl L1 ?_
  refine E_dup2 rfl rfl rfl ?_
  refine E_ial rfl hh rfl (by omega) (by decide) g1 ?_
  refine E_ci 1 rfl ci1 ?_
  refine E_il rfl L2 ?_
  refine E_bin rfl (show nJ 1 <<< (nJ b &&& 31) = nJ (2 ^ b) from shl_tab ⟨b, by omega⟩) ?_
  refine E_bin rfl o1 ?_
  refine E_ias rfl hh rfl (by omega) (by decide) ?_
  refine E_al rfl L0 ?_
  refine E_ogr (q := 68) rfl h1 rfl rfl ?_
  refine E_il rfl L2 ?_
  refine E_dup2 rfl rfl rfl ?_
  refine E_ial rfl h1 rfl (by omega) (by decide) g2 ?_
  refine E_ci 1 rfl ci1 ?_
  refine E_il rfl L1 ?_
  refine E_bin rfl (show nJ 1 <<< (nJ a &&& 31) = nJ (2 ^ a) from shl_tab ⟨a, by omega⟩) ?_
  refine E_bin rfl o2 ?_
  refine E_ias rfl h1 rfl (by omega) (by decide) ?_
  exact E_ret rfl ⟨rfl, h2, fr_ptr (l := 0) (u := 8) rfl (by omega) (by omega) (fr_ptr (l := 0) (u := 8) rfl (by omega) (by omega) (fr_rf _ _)), N2⟩
theorem sp_clear8 {n : Nat} (hh : HH h) (n8 : n ≤ 8) (g5 : gi h 64 5 = nJ (n + 1)) : Sp (d + 1) 60 h [.ref 64] (fun h' r => r = none ∧ HH h' ∧ fr_g NF h h' ∧ ∀ v, v ≤ n → NR (fun _ _ => false) v h') := by
  refine Sp_of aiX7_clearLimbs rfl rfl rfl ?_
  have L0 : pm_get (lv_args 0 [.ref 64]) 0 = some (.ref 64) := rfl
  generalize lv_args 0 [.ref 64] = lv at L0 ⊢
  have loop : ∀ (j : Nat) {g : pm_H} {k : Nat} (lv : List (Nat × Value)), k + j = n + 1 → HH g → fr_g NF h g → (∀ v, v < k → gi g 68 v = nJ 0) → pm_get lv 0 = some (.ref 64) → pm_get lv 1 = some (.int (nJ k)) → Ends (pm_at tX7_clearLimbs) (pm_Rt pm_P d) (2, lv, [], g, 0, 0) (fun h' r => r = none ∧ HH h' ∧ fr_g NF h h' ∧ ∀ v, v ≤ n → NR (fun _ _ => false) v h') := by
    intro j
    induction j with
    | zero =>
      intro g k lv hj hg F Z L0 L1
      have g5' : gi g 64 5 = nJ (n + 1) := by rw [fr_gi F (rg_no rfl _)]; exact g5
      refine E_il rfl L1 ?_
      refine E_al rfl L0 ?_
      refine E_ogf (q := (0, 9)) rfl hg rfl rfl g5' ?_
      refine E_icT rfl (decide_eq_true ((nJ_le (by omega) (by omega)).mpr (by omega))) ?_
      exact E_ret rfl ⟨rfl, hg, F, fun v hv => ⟨0, by omega, Z v (by omega), fun j _ => isB_zero j⟩⟩
    | succ j ih =>
      intro g k lv hj hg F Z L0 L1
      have g5' : gi g 64 5 = nJ (n + 1) := by rw [fr_gi F (rg_no rfl _)]; exact g5
      refine E_il rfl L1 ?_
      refine E_al rfl L0 ?_
      refine E_ogf (q := (0, 9)) rfl hg rfl rfl g5' ?_
      refine E_icF rfl (decide_eq_false (fun q => absurd ((nJ_le (by omega) (by omega)).mp q) (by omega))) ?_
      refine E_al rfl L0 ?_
      refine E_ogr (q := 68) rfl hg rfl rfl ?_
      refine E_il rfl L1 ?_
      refine E_ci 0 rfl ci0 ?_
      refine E_ias rfl hg rfl (by omega) (by decide) ?_
      have b : bd 68 k = some (0, 511) := bd_u rfl (by omega)
      have h1 : HH (pt g 68 k (nJ 0)) := HH_ptn hg b (by omega) (by omega) (by omega)
      refine E_inc rfl L1 (nJ_inc _) (fun lv1 K1 kp => ?_)
      refine E_goto rfl ?_
      refine ih (k := k + 1) lv1 (by omega) h1 (fr_ptr (l := 0) (u := 8) rfl (by omega) (by omega) F) (fun v hv => ?_) (kp 0 _ (nbz rfl) rfl L0) K1
      by_cases e : v = k
      · rw [e]; exact gi_ptn hg b (by omega) (by omega) (by omega)
      · rw [gi_ne (fun _ => e)]; exact Z v (by omega)
  refine E_ci 0 rfl ci0 ?_
  refine E_is rfl (fun lv1 K1 kp => ?_)
  exact loop (n + 1) lv1 (by omega) hh (fr_rf _ _) (fun v hv => absurd hv (Nat.not_lt_zero v)) (kp 0 _ (nbz rfl) rfl L0) K1
theorem sp_low8 {m : Nat} (hm : m < 512) (ex : ∃ j, j < 9 ∧ isB m j = true) : Sp (d + 1) 70 h [.int (nJ m)] (fun h' r => h' = h ∧ ∃ e, e < 9 ∧ isB m e = true ∧ (∀ j, j < e → isB m j = false) ∧ r = some (.int (nJ e))) := by
  refine Sp_of aiX7_lowestBit rfl rfl rfl ?_
  have L0 : pm_get (lv_args 0 [.int (nJ m)]) 0 = some (.int (nJ m)) := rfl
  generalize lv_args 0 [.int (nJ m)] = lv at L0 ⊢
  have loop : ∀ (j : Nat) {k : Nat} (lv : List (Nat × Value)), k + j = 9 → (∀ i, i < k → isB m i = false) → pm_get lv 0 = some (.int (nJ m)) → pm_get lv 1 = some (.int (nJ k)) → Ends (pm_at tX7_lowestBit) (pm_Rt pm_P d) (2, lv, [], h, 0, 0) (fun h' r => h' = h ∧ ∃ e, e < 9 ∧ isB m e = true ∧ (∀ j, j < e → isB m j = false) ∧ r = some (.int (nJ e))) := by
    intro j
    induction j with
    | zero =>
      intro k lv hj Z L0 L1
      obtain ⟨j, j9, bj⟩ := ex
      have := Z j (by omega)
      rw [bj] at this; cases this
    | succ j ih =>
      intro k lv hj Z L0 L1
      refine E_il rfl L1 ?_
      refine E_ci 9 rfl ci9 ?_
      refine E_icF rfl (decide_eq_false (fun q => absurd ((nJ_le (by omega) (by omega)).mp q) (by omega))) ?_
      refine E_il rfl L0 ?_
      refine E_il rfl L1 ?_
      refine E_bin rfl rfl ?_
      refine E_ci 1 rfl ci1 ?_
      refine E_bin rfl rfl ?_
      have tb := fr0_tab ⟨m, hm⟩ ⟨k, by omega⟩
      dsimp only at tb
      cases b : isB m k
      · refine E_ifT rfl (decide_eq_true (tb.mpr b)) ?_
        refine E_inc rfl L1 (nJ_inc _) (fun lv1 K1 kp => ?_)
        refine E_goto rfl ?_
        refine ih (k := k + 1) lv1 (by omega) (fun i hi => ?_) (kp 0 _ (nbz rfl) rfl L0) K1
        by_cases e : i = k
        · rw [e]; exact b
        · exact Z i (by omega)
      · refine E_ifF rfl (decide_eq_false (fun q => by rw [tb.mp q] at b; cases b)) ?_
        refine E_il rfl L1 ?_
        exact E_rti rfl ⟨rfl, k, by omega, b, Z, rfl⟩
  refine E_ci 0 rfl ci0 ?_
  refine E_is rfl (fun lv1 K1 kp => ?_)
  exact loop 9 lv1 (by omega) (fun i hi => absurd hi (Nat.not_lt_zero i)) (kp 0 _ (nbz rfl) rfl L0) K1
theorem sp_least8 {n : Nat} {p : Nat → Nat → Bool} (hh : HH h) (n8 : n ≤ 8) (g5 : gi h 64 5 = nJ (n + 1)) (N : ∀ v, v ≤ n → NR p v h) (cnt : Nat → Nat) (C : ∀ v, v ≤ n → ∀ m, m < 512 → (∀ j, j < 9 → isB m j = p j v) → pcn m 9 = cnt v) (ex : ∃ v, v ≤ n ∧ cnt v = 1) : Sp (d + 2) 68 h [.ref 64] (fun h' r => h' = h ∧ ∃ x, x ≤ n ∧ cnt x = 1 ∧ (∀ y, y < x → cnt y ≠ 1) ∧ r = some (.int (nJ x))) := by
  refine Sp_of aiX7_leastWithOneLimb rfl rfl rfl ?_
  have L0 : pm_get (lv_args 0 [.ref 64]) 0 = some (.ref 64) := rfl
  generalize lv_args 0 [.ref 64] = lv at L0 ⊢
  have loop : ∀ (j : Nat) {k : Nat} (lv : List (Nat × Value)), k + j = n + 1 → (∀ y, y < k → cnt y ≠ 1) → pm_get lv 0 = some (.ref 64) → pm_get lv 1 = some (.int (nJ k)) → Ends (pm_at tX7_leastWithOneLimb) (pm_Rt pm_P (d + 1)) (2, lv, [], h, 0, 0) (fun h' r => h' = h ∧ ∃ x, x ≤ n ∧ cnt x = 1 ∧ (∀ y, y < x → cnt y ≠ 1) ∧ r = some (.int (nJ x))) := by
    intro j
    induction j with
    | zero =>
      intro k lv hj Z L0 L1
      obtain ⟨v, v1, v2⟩ := ex
      exact absurd v2 (Z v (by omega))
    | succ j ih =>
      intro k lv hj Z L0 L1
      obtain ⟨m, hm, gm, bm⟩ := N k (by omega)
      have cm := C k (by omega) m hm bm
      have c9 := pcn_le m 9
      refine E_il rfl L1 ?_
      refine E_al rfl L0 ?_
      refine E_ogf (q := (0, 9)) rfl hh rfl rfl g5 ?_
      refine E_icF rfl (decide_eq_false (fun q => absurd ((nJ_le (by omega) (by omega)).mp q) (by omega))) ?_
      refine E_al rfl L0 ?_
      refine E_ogr (q := 68) rfl hh rfl rfl ?_
      refine E_il rfl L1 ?_
      refine E_ial rfl hh rfl (by omega) (by decide) gm ?_
      refine E_call rfl (sp_bitCount (d := d) (x := nJ m)) (chkS rfl (by show 0 ≤ 8; decide)) (fun h2 r2 => ?_)
      rintro ⟨e2, f2⟩
      rw [e2, f2, show bcn (nJ m) = nJ (pcT m) from bcn_tab ⟨m, hm⟩, show pcT m = pcn m 9 from pct_tab ⟨m, hm⟩, cm]
      refine E_ci 1 rfl ci1 ?_
      by_cases b : cnt k = 1
      · refine E_icF rfl (decide_eq_false (fun q => q (by rw [b]))) ?_
        refine E_il rfl L1 ?_
        exact E_rti rfl ⟨rfl, k, by omega, b, Z, rfl⟩
      · refine E_icT rfl (decide_eq_true (fun q => b ((nJ_eq (by omega) (by omega)).mp q))) ?_
        refine E_inc rfl L1 (nJ_inc _) (fun lv1 K1 kp => ?_)
        refine E_goto rfl ?_
        refine ih (k := k + 1) lv1 (by omega) (fun y hy => ?_) (kp 0 _ (nbz rfl) rfl L0) K1
        by_cases e : y = k
        · rw [e]; exact b
        · exact Z y (by omega)
  refine E_ci 0 rfl ci0 ?_
  refine E_is rfl (fun lv1 K1 kp => ?_)
  exact loop (n + 1) lv1 (by omega) (fun y hy => absurd hy (Nat.not_lt_zero y)) (kp 0 _ (nbz rfl) rfl L0) K1
end LMB
end
section
/-! the CODE of a tree, both (written by gen_u102.py; wants u101) -/
/-- what is near, in what is left -/
noncomputable def nbp (pa : Nat → Nat) (n g : Nat) : Nat → Nat → Bool := fun u v => decide (u ≤ n ∧ isB g u = false ∧ isB g v = false ∧ ((v ≠ 0 ∧ pa v = u) ∨ (u ≠ 0 ∧ pa u = v)))
theorem two_no {pa : Nat → Nat} : ∀ (f : Nat) {u v : Nat}, dep pa f v → u ≠ 0 → v ≠ 0 → pa v = u → pa u = v → False
  | 0, _, _, d, _, v0, _, _ => v0 d
  | f + 1, u, v, d, u0, v0, e1, e2 => by
    rcases d with d | d
    · exact v0 d
    · rw [e1] at d
      exact two_no f d v0 u0 e2 e1
theorem cnt_eq {pa : Nat → Nat} {n g v m : Nat} (n8 : n ≤ 8) (D : DT n pa) (vn : v ≤ n) (bv : isB g v = false) (hb : ∀ j, j < 9 → isB m j = nbp pa n g j v) : pcn m 9 = limb pa g v n := by
  have key : ∀ k, k ≤ n + 1 → pcn m k = (if v ≠ 0 ∧ pa v < k ∧ isB g (pa v) = false then 1 else 0) + lc (ind pa g v) k := by
    intro k
    induction k with
    | zero => intro _; rw [if_neg (fun q => Nat.not_lt_zero _ q.2.1)]; rfl
    | succ k ih =>
      intro hk
      have e1 : pcn m (k + 1) = pcn m k + (if isB m k = true then 1 else 0) := rfl
      have e2 : lc (ind pa g v) (k + 1) = lc (ind pa g v) k + (if ind pa g v k = 0 then 0 else 1) := rfl
      rw [e1, e2, ih (by omega), hb k (by omega)]
      by_cases A : v ≠ 0 ∧ pa v = k
      · have nB : ¬ (k ≠ 0 ∧ pa k = v) := fun q => two_no n (DT_d D vn) q.1 A.1 A.2 q.2
        have f1 : (if v ≠ 0 ∧ pa v < k ∧ isB g (pa v) = false then 1 else 0 : Nat) = 0 := if_neg (fun q => by have := q.2.1; rw [A.2] at this; exact Nat.lt_irrefl _ this)
        have f3 : (if ind pa g v k = 0 then 0 else 1 : Nat) = 0 := if_pos (ind_F (fun q => nB ⟨Nat.ne_of_gt q.1, q.2.1⟩))
        cases Z : isB g k
        · have f2 : (if v ≠ 0 ∧ pa v < k + 1 ∧ isB g (pa v) = false then 1 else 0 : Nat) = 1 := if_pos ⟨A.1, by rw [A.2]; exact Nat.lt_succ_self k, by rw [A.2]; exact Z⟩
          have f4 : (if nbp pa n g k v = true then 1 else 0 : Nat) = 1 := if_pos (decide_eq_true ⟨Nat.le_of_succ_le_succ hk, Z, bv, .inl A⟩)
          rw [f1, f2, f3, f4]
          omega
        · have f2 : (if v ≠ 0 ∧ pa v < k + 1 ∧ isB g (pa v) = false then 1 else 0 : Nat) = 0 := if_neg (fun q => by have := q.2.2; rw [A.2, Z] at this; cases this)
          have f4 : (if nbp pa n g k v = true then 1 else 0 : Nat) = 0 := if_neg (fun q => by have := (of_decide_eq_true q).2.1; rw [Z] at this; cases this)
          rw [f1, f2, f3, f4]
          rfl
      · have f2 : (if v ≠ 0 ∧ pa v < k + 1 ∧ isB g (pa v) = false then 1 else 0 : Nat) = (if v ≠ 0 ∧ pa v < k ∧ isB g (pa v) = false then 1 else 0 : Nat) := by
          by_cases o : v ≠ 0 ∧ pa v < k ∧ isB g (pa v) = false
          · rw [if_pos o, if_pos ⟨o.1, Nat.lt_succ_of_lt o.2.1, o.2.2⟩]
          · rw [if_neg o, if_neg (fun q => o ⟨q.1, Nat.lt_of_le_of_ne (Nat.le_of_lt_succ q.2.1) (fun e => A ⟨q.1, e⟩), q.2.2⟩)]
        rw [f2]
        by_cases Bq : k ≠ 0 ∧ pa k = v
        · cases Z : isB g k
          · have f3 : (if ind pa g v k = 0 then 0 else 1 : Nat) = 1 := by rw [ind_T ⟨Nat.pos_of_ne_zero Bq.1, Bq.2, Z⟩]; rfl
            have f4 : (if nbp pa n g k v = true then 1 else 0 : Nat) = 1 := if_pos (decide_eq_true ⟨Nat.le_of_succ_le_succ hk, Z, bv, .inr Bq⟩)
            rw [f3, f4, Nat.add_assoc]
          · have f3 : (if ind pa g v k = 0 then 0 else 1 : Nat) = 0 := if_pos (ind_F (fun q => by have := q.2.2; rw [Z] at this; cases this))
            have f4 : (if nbp pa n g k v = true then 1 else 0 : Nat) = 0 := if_neg (fun q => by have := (of_decide_eq_true q).2.1; rw [Z] at this; cases this)
            rw [f3, f4]
            rfl
        · have f3 : (if ind pa g v k = 0 then 0 else 1 : Nat) = 0 := if_pos (ind_F (fun q => Bq ⟨Nat.ne_of_gt q.1, q.2.1⟩))
          have f4 : (if nbp pa n g k v = true then 1 else 0 : Nat) = 0 := if_neg (fun q => (of_decide_eq_true q).2.2.2.elim A Bq)
          rw [f3, f4]
          rfl
  have t := pcn_more (m := m) (k := n + 1) (fun j h1 h2 => by
    rw [hb j h2]
    exact decide_eq_false (fun q => by have := q.1; omega)) (8 - n) (by omega)
  rw [show n + 1 + (8 - n) = 9 by omega] at t
  rw [t, key (n + 1) (Nat.le_refl _)]
  show _ = upl pa g v + lc (ind pa g v) (n + 1)
  congr 1
  unfold upl
  by_cases o : v ≠ 0 ∧ isB g (pa v) = false
  · have := (D v (Nat.pos_of_ne_zero o.1) vn).2
    rw [if_pos o, if_pos ⟨o.1, Nat.lt_succ_of_le this, o.2⟩]
  · rw [if_neg o, if_neg (fun q => o ⟨q.1, q.2.2⟩)]
theorem lc_one {l : Nat → Nat} {n u v : Nat} (e : lc l n = 1) (hu : u < n) (hv : v < n) (lu : l u ≠ 0) (lv : l v ≠ 0) : v = u := by
  by_cases e2 : v = u
  · exact e2
  · exfalso
    have s1 := lc_fu0 lu (n := n) hu
    have s2 := lc_zero (l := fu l u 0) (n := n) (by omega) v hv
    rw [fu_ne e2] at s2
    exact lv s2
/-- the least end, its other end -/
noncomputable def LEn (pa : Nat → Nat) (n g x : Nat) : Prop := x ≤ n ∧ isB g x = false ∧ limb pa g x n = 1 ∧ ∀ y, y < x → ¬ (isB g y = false ∧ limb pa g y n = 1)
noncomputable def OEn (pa : Nat → Nat) (n g x w : Nat) : Prop := w ≤ n ∧ isB g w = false ∧ ((x ≠ 0 ∧ pa x = w) ∨ (w ≠ 0 ∧ pa w = x))
theorem LEn_u {pa : Nat → Nat} {n g x y : Nat} (a : LEn pa n g x) (b : LEn pa n g y) : x = y := by
  rcases Nat.lt_trichotomy x y with l | l | l
  · exact absurd ⟨a.2.1, a.2.2.1⟩ (b.2.2.2 x l)
  · exact l
  · exact absurd ⟨b.2.1, b.2.2.1⟩ (a.2.2.2 y l)
theorem OEn_u {pa : Nat → Nat} {n g x w u : Nat} (l : limb pa g x n = 1) (a : OEn pa n g x w) (b : OEn pa n g x u) : w = u := by
  obtain ⟨a1, a2, a3⟩ := a
  obtain ⟨b1, b2, b3⟩ := b
  have el : limb pa g x n = upl pa g x + lc (ind pa g x) (n + 1) := rfl
  have up : ∀ {t : Nat}, isB g t = false → x ≠ 0 ∧ pa x = t → upl pa g x = 1 := fun z q => if_pos ⟨q.1, by rw [q.2]; exact z⟩
  have ki : ∀ {t : Nat}, isB g t = false → t ≠ 0 ∧ pa t = x → ind pa g x t ≠ 0 := fun z q => by rw [ind_T ⟨Nat.pos_of_ne_zero q.1, q.2, z⟩]; decide
  have ps : ∀ {t : Nat}, t ≤ n → ind pa g x t ≠ 0 → lc (ind pa g x) (n + 1) ≠ 0 := fun ht q z => q (lc_zero z _ (Nat.lt_succ_of_le ht))
  rcases a3 with a3 | a3 <;> rcases b3 with b3 | b3
  · exact a3.2.symm.trans b3.2
  · have s1 := up a2 a3
    have s2 := ps b1 (ki b2 b3)
    omega
  · have s1 := up b2 b3
    have s2 := ps a1 (ki a2 a3)
    omega
  · have s2 := ps a1 (ki a2 a3)
    have s3 : lc (ind pa g x) (n + 1) = 1 := by omega
    exact lc_one s3 (Nat.lt_succ_of_le b1) (Nat.lt_succ_of_le a1) (ki b2 b3) (ki a2 a3)
/-- i nodes gone; the number written then -/
noncomputable def CSt (pa : Nat → Nat) (n : Nat) : Nat → Nat → Prop
  | 0, g => g = 0
  | i + 1, g' => ∃ g x, CSt pa n i g ∧ LEn pa n g x ∧ g' = g + 2 ^ x
theorem CSt_u {pa : Nat → Nat} {n : Nat} : ∀ {i g g' : Nat}, CSt pa n i g → CSt pa n i g' → g = g'
  | 0, g, g', a, b => by
    have a : g = 0 := a
    have b : g' = 0 := b
    rw [a, b]
  | i + 1, g, g', a, b => by
    obtain ⟨g1, x1, c1, l1, e1⟩ := a
    obtain ⟨g2, x2, c2, l2, e2⟩ := b
    have e := CSt_u c1 c2
    subst e
    rw [e1, e2, LEn_u l1 l2]
noncomputable def WRn (pa : Nat → Nat) (n i w : Nat) : Prop := ∃ g x, CSt pa n i g ∧ LEn pa n g x ∧ OEn pa n g x w
theorem WRn_u {pa : Nat → Nat} {n i w u : Nat} (a : WRn pa n i w) (b : WRn pa n i u) : w = u := by
  obtain ⟨g1, x1, c1, l1, e1⟩ := a
  obtain ⟨g2, x2, c2, l2, e2⟩ := b
  have e := CSt_u c1 c2
  subst e
  have e := LEn_u l1 l2
  subst e
  exact OEn_u l1.2.2.1 e1 e2
section CGX
variable {f pa : Nat → Nat} {n : Nat}
theorem limb_cg {g x : Nat} (e : ∀ v, 1 ≤ v → v ≤ n → f v = pa v) (hx : x ≤ n) : limb f g x n = limb pa g x n := by
  unfold limb
  have a : upl f g x = upl pa g x := by
    unfold upl
    by_cases z : x = 0
    · rw [if_neg (fun q => q.1 z), if_neg (fun q => q.1 z)]
    · rw [e x (Nat.pos_of_ne_zero z) hx]
  have c : lc (ind f g x) (n + 1) = lc (ind pa g x) (n + 1) := lc_eq (fun v hv => by
    by_cases z : v = 0
    · have i1 : ind f g x v = 0 := ind_F (fun q => absurd q.1 (by omega))
      have i2 : ind pa g x v = 0 := ind_F (fun q => absurd q.1 (by omega))
      rw [i1, i2]
    · have i1 : ind f g x v = ind pa g x v := by
        unfold ind
        rw [e v (Nat.pos_of_ne_zero z) (by omega)]
      rw [i1])
  rw [a, c]
theorem LEn_cg {g x : Nat} (e : ∀ v, 1 ≤ v → v ≤ n → f v = pa v) (l : LEn f n g x) : LEn pa n g x := by
  obtain ⟨a, b, c, k⟩ := l
  exact ⟨a, b, by rw [← limb_cg e a]; exact c, fun y hy q => k y hy ⟨q.1, by rw [limb_cg e (by omega)]; exact q.2⟩⟩
theorem OEn_cg {g x w : Nat} (e : ∀ v, 1 ≤ v → v ≤ n → f v = pa v) (hx : x ≤ n) (o : OEn f n g x w) : OEn pa n g x w := by
  obtain ⟨a, b, c⟩ := o
  refine ⟨a, b, ?_⟩
  rcases c with c | c
  · exact .inl ⟨c.1, by rw [← e x (Nat.pos_of_ne_zero c.1) hx]; exact c.2⟩
  · exact .inr ⟨c.1, by rw [← e w (Nat.pos_of_ne_zero c.1) a]; exact c.2⟩
theorem CSt_cg (e : ∀ v, 1 ≤ v → v ≤ n → f v = pa v) : ∀ {i g : Nat}, CSt f n i g → CSt pa n i g
  | 0, _, a => a
  | _ + 1, _, ⟨g1, x1, c1, l1, e1⟩ => ⟨g1, x1, CSt_cg e c1, LEn_cg e l1, e1⟩
theorem WRn_cg {i w : Nat} (e : ∀ v, 1 ≤ v → v ≤ n → f v = pa v) (a : WRn f n i w) : WRn pa n i w := by
  obtain ⟨g, x, c, l, o⟩ := a
  exact ⟨g, x, CSt_cg e c, LEn_cg e l, OEn_cg e l.1 o⟩
end CGX
/-! the class -/
noncomputable def lims (pa : Nat → Nat) : Nat → Nat → Nat → Bool
  | 0 => fun _ _ => false
  | k + 1 => one (one (lims pa k) (k + 1) (pa (k + 1))) (pa (k + 1)) (k + 1)
theorem lims_iff {pa : Nat → Nat} {j v : Nat} : ∀ k, lims pa k j v = true ↔ (1 ≤ v ∧ v ≤ k ∧ pa v = j) ∨ (1 ≤ j ∧ j ≤ k ∧ pa j = v)
  | 0 => by
    constructor
    · intro q
      have q : false = true := q
      cases q
    · rintro (q | q) <;> omega
  | k + 1 => by
    show ((v == pa (k + 1) && j == k + 1) || ((v == k + 1 && j == pa (k + 1)) || lims pa k j v)) = true ↔ _
    simp only [Bool.or_eq_true, Bool.and_eq_true, beq_iff_eq]
    rw [lims_iff k]
    constructor
    · rintro (⟨a, b⟩ | ⟨a, b⟩ | q | q)
      · exact .inr ⟨by omega, by omega, by rw [b]; exact a.symm⟩
      · exact .inl ⟨by omega, by omega, by rw [a]; exact b.symm⟩
      · exact .inl ⟨q.1, by omega, q.2.2⟩
      · exact .inr ⟨q.1, by omega, q.2.2⟩
    · rintro (q | q)
      · by_cases e : v = k + 1
        · exact .inr (.inl ⟨e, by rw [← e]; exact q.2.2.symm⟩)
        · exact .inr (.inr (.inl ⟨q.1, by omega, q.2.2⟩))
      · by_cases e : j = k + 1
        · exact .inl ⟨by rw [← e]; exact q.2.2.symm, e⟩
        · exact .inr (.inr (.inr ⟨q.1, by omega, q.2.2⟩))
theorem lims_nbp {pa : Nat → Nat} {n j v : Nat} (D : DT n pa) (vn : v ≤ n) : lims pa n j v = nbp pa n 0 j v := by
  apply Bool.eq_iff_iff.mpr
  rw [lims_iff]
  constructor
  · rintro (q | q)
    · exact decide_eq_true ⟨by have := (D v q.1 q.2.1).2; omega, isB_zero _, isB_zero _, .inl ⟨Nat.ne_of_gt q.1, q.2.2⟩⟩
    · exact decide_eq_true ⟨q.2.1, isB_zero _, isB_zero _, .inr ⟨Nat.ne_of_gt q.1, q.2.2⟩⟩
  · intro q
    obtain ⟨a, -, -, q⟩ := of_decide_eq_true q
    rcases q with q | q
    · exact .inl ⟨Nat.pos_of_ne_zero q.1, vn, q.2⟩
    · exact .inr ⟨Nat.pos_of_ne_zero q.1, a, q.2⟩
theorem nbp_new {pa : Nat → Nat} {n g g' x j v : Nat} (bit : ∀ c, c ≤ n → isB g' c = (c == x || isB g c)) (hv : v ≤ n) (vx : v ≠ x) : nbp pa n g' j v = (!(j == x) && nbp pa n g j v) := by
  apply Bool.eq_iff_iff.mpr
  rw [Bool.and_eq_true]
  constructor
  · intro q
    obtain ⟨a, b, c, e⟩ := of_decide_eq_true q
    rw [bit j a, Bool.or_eq_false_iff] at b
    rw [bit v hv, Bool.or_eq_false_iff] at c
    exact ⟨by rw [b.1]; rfl, decide_eq_true ⟨a, b.2, c.2, e⟩⟩
  · rintro ⟨q1, q2⟩
    obtain ⟨a, b, c, e⟩ := of_decide_eq_true q2
    have jx : (j == x) = false := by
      cases z : (j == x)
      · rfl
      · rw [z] at q1; cases q1
    exact decide_eq_true ⟨a, by rw [bit j a, b, jx]; rfl, by rw [bit v hv, c, Bool.or_false]; exact beq_eq_false_iff_ne.mpr vx, e⟩
noncomputable def cnL (pa : Nat → Nat) (n g v : Nat) : Nat := bif isB g v then 0 else limb pa g v n
section CNB
variable {h0 : pm_H} {d n : Nat} {pa : Nat → Nat}
theorem cf_loop {x : Int32} {Q : pm_H → Option Value → Prop} (n8 : n ≤ 8) (T : ∀ v, 1 ≤ v → v ≤ n → gi h0 65 v = nJ (pa v)) (D : DT n pa) (g50 : gi h0 64 5 = nJ (n + 1)) (K : ∀ {g : pm_H} (lv : List (Nat × Value)), HH g → fr_g NF h0 g → (∀ v, v ≤ n → NR (lims pa n) v g) → pm_get lv 0 = some (.ref 64) → pm_get lv 1 = some (.int x) → Ends (pm_at tX7_codeNumber) (pm_Rt pm_P (d + 2)) (31, lv, [], g, 0, 0) Q) (j : Nat) : ∀ {g : pm_H} {k : Nat} (lv : List (Nat × Value)), k + j = n → HH g → fr_g NF h0 g → (∀ v, v ≤ n → NR (lims pa k) v g) → pm_get lv 0 = some (.ref 64) → pm_get lv 1 = some (.int x) → pm_get lv 2 = some (.int (nJ (k + 1))) → Ends (pm_at tX7_codeNumber) (pm_Rt pm_P (d + 2)) (6, lv, [], g, 0, 0) Q := by
  induction j with
  | zero =>
    intro g k lv hj hg F N L0 L1 L2
    have g5 : gi g 64 5 = nJ (n + 1) := by rw [fr_gi F (rg_no rfl _)]; exact g50
    have e : k = n := by omega
    subst e
    refine E_il rfl L2 ?_
    refine E_al rfl L0 ?_
    refine E_ogf (q := (0, 9)) rfl hg rfl rfl g5 ?_
    refine E_icT rfl (decide_eq_true ((nJ_le (by omega) (by omega)).mpr (by omega))) ?_
    exact K lv hg F N L0 L1
  | succ j ih =>
    intro g k lv hj hg F N L0 L1 L2
    have g5 : gi g 64 5 = nJ (n + 1) := by rw [fr_gi F (rg_no rfl _)]; exact g50
    have tk : gi g 65 (k + 1) = nJ (pa (k + 1)) := by rw [fr_gi F (rg_no rfl _)]; exact T (k + 1) (by omega) (by omega)
    have pk := (D (k + 1) (by omega) (by omega)).2
    refine E_il rfl L2 ?_
    refine E_al rfl L0 ?_
    refine E_ogf (q := (0, 9)) rfl hg rfl rfl g5 ?_
    refine E_icF rfl (decide_eq_false (fun q => absurd ((nJ_le (by omega) (by omega)).mp q) (by omega))) ?_
    refine E_al rfl L0 ?_
    refine E_il rfl L2 ?_
    refine E_al rfl L0 ?_
    refine E_ogr (q := 65) rfl hg rfl rfl ?_
    refine E_il rfl L2 ?_
    refine E_ial rfl hg rfl (by omega) (by decide) tk ?_
    refine E_call rfl (sp_addLimb8 (d := d + 1) hg n8 (show k + 1 ≤ n by omega) pk N) (chkO (a := 64) hg rfl rfl rfl rfl (by show 0 ≤ 8; decide)) (fun h1 r1 => ?_)
    rintro ⟨e1, hh1, f1, N1⟩
    rw [e1]
    refine E_inc rfl L2 (nJ_inc _) (fun lv1 K2 kp => ?_)
    refine E_goto rfl ?_
    exact ih (k := k + 1) lv1 (by omega) hh1 (fr_trans F f1) N1 (kp 0 _ (nbz rfl) rfl L0) (kp 1 _ (nbz rfl) rfl L1) K2
theorem cs_loop {i : Nat} (n8 : n ≤ 8) (D : DT n pa) (hi : i + 1 < n) (g50 : gi h0 64 5 = nJ (n + 1)) (j : Nat) : ∀ {h : pm_H} {k g : Nat} {wr : Int32} (lv : List (Nat × Value)), k + j = i + 1 → HH h → fr_g NF h0 h → (∀ v, v ≤ n → NR (nbp pa n g) v h) → CSt pa n k g → g < 512 → pcn g (n + 1) = k → CI pa n g → (k = 0 ∨ ∃ w, WRn pa n (k - 1) w ∧ wr = nJ w) → pm_get lv 0 = some (.ref 64) → pm_get lv 1 = some (.int (nJ i)) → pm_get lv 2 = some (.int wr) → pm_get lv 3 = some (.int (nJ k)) → Ends (pm_at tX7_codeNumber) (pm_Rt pm_P (d + 2)) (35, lv, [], h, 0, 0) (fun h' r => HH h' ∧ fr_g NF h0 h' ∧ ∃ w, WRn pa n i w ∧ r = some (.int (nJ w))) := by
  induction j with
  | zero =>
    intro h k g wr lv hj hh F N S gl pc C W L0 L1 L2 L3
    refine E_il rfl L3 ?_
    refine E_il rfl L1 ?_
    refine E_icT rfl (decide_eq_true ((nJ_lt (by omega) (by omega)).mpr (by omega))) ?_
    rcases W with W | ⟨w, w1, w2⟩
    · omega
    · refine E_il rfl L2 ?_
      exact E_rti rfl ⟨hh, F, w, by rw [show i = k - 1 by omega]; exact w1, by rw [w2]⟩
  | succ j ih =>
    intro h k g wr lv hj hh F N S gl pc C W L0 L1 L2 L3
    have g5 : gi h 64 5 = nJ (n + 1) := by rw [fr_gi F (rg_no rfl _)]; exact g50
    have D8 : ∀ v, 1 ≤ v → v ≤ n → dep pa 8 v := fun v a b => dep_le (D v a b).1 (by omega)
    have DF : ∀ v, 1 ≤ v → v ≤ n → pa v ≤ n := fun v a b => (D v a b).2
    obtain ⟨v0, v1, v2, v3⟩ := leaf_in n8 gl C D8 (by rw [pc]; omega)
    refine E_il rfl L3 ?_
    refine E_il rfl L1 ?_
    refine E_icF rfl (decide_eq_false (fun q => absurd ((nJ_lt (by omega) (by omega)).mp q) (by omega))) ?_
    refine E_al rfl L0 ?_
    refine E_call rfl (sp_least8 (d := d) hh n8 g5 N (cnL pa n g) (fun v hv m hm hb => by
      unfold cnL
      cases b : isB g v
      · exact cnt_eq n8 D hv b hb
      · exact pcn_none (fun j hj => by
          rw [hb j hj]
          exact decide_eq_false (fun q => by have := q.2.2.1; rw [b] at this; cases this))) ⟨v0, v1, by unfold cnL; rw [v2]; exact v3⟩) (chkO (a := 64) hh rfl rfl rfl rfl (by show 0 ≤ 8; decide)) (fun h2 r2 => ?_)
    rintro ⟨e2, x, xn, cx, lx, f2⟩
    rw [e2, f2]
    have zx : isB g x = false := by
      cases b : isB g x
      · rfl
      · unfold cnL at cx; rw [b] at cx; cases cx
    have l1 : limb pa g x n = 1 := by unfold cnL at cx; rw [zx] at cx; exact cx
    have LE : LEn pa n g x := ⟨xn, zx, l1, fun y hy q => lx y hy (by unfold cnL; rw [q.1]; exact q.2)⟩
    refine E_is rfl (fun lv1 K4 kp => ?_)
    have A0 := kp 0 _ (nbz rfl) rfl L0
    obtain ⟨m, hm, gm, bm⟩ := N x xn
    have ex : ∃ j, j < 9 ∧ isB m j = true := pcn_ex (by rw [cnt_eq n8 D xn zx bm, l1]; decide)
    refine E_al rfl A0 ?_
    refine E_ogr (q := 68) rfl hh rfl rfl ?_
    refine E_il rfl K4 ?_
    refine E_ial rfl hh rfl (by omega) (by decide) gm ?_
    refine E_call rfl (Sp_le (by first | exact Nat.add_le_add_left (Nat.le_of_ble_eq_true rfl) _ | exact Nat.le_of_ble_eq_true rfl | omega) (sp_low8 (d := d) hm ex)) (chkS rfl (by show 0 ≤ 8; decide)) (fun h3 r3 => ?_)
    rintro ⟨e3, w, w9, bw, -, f3⟩
    rw [e3, f3]
    rw [bm w w9] at bw
    obtain ⟨wn, zw, -, ad⟩ := of_decide_eq_true bw
    have OE : OEn pa n g x w := ⟨wn, zw, ad⟩
    have wx : w ≠ x := fun e => by
      rw [e] at ad
      rcases ad with q | q
      · exact two_no n (DT_d D xn) q.1 q.1 q.2 q.2
      · exact two_no n (DT_d D xn) q.1 q.1 q.2 q.2
    refine E_is rfl (fun lv2 K2 kp2 => ?_)
    have B0 := kp2 0 _ (nbz rfl) rfl A0
    have B4 := kp2 4 _ (nbz rfl) rfl K4
    refine E_al rfl B0 ?_
    refine E_ogr (q := 68) rfl hh rfl rfl ?_
    refine E_il rfl B4 ?_
    refine E_ci 0 rfl ci0 ?_
    refine E_ias rfl hh rfl (by omega) (by decide) ?_
    have bx : bd 68 x = some (0, 511) := bd_u rfl (by omega)
    have bw8 : bd 68 w = some (0, 511) := bd_u rfl (by omega)
    have h1 : HH (pt h 68 x (nJ 0)) := HH_ptn hh bx (by omega) (by omega) (by omega)
    have F1 : fr_g NF h0 (pt h 68 x (nJ 0)) := fr_ptr (l := 0) (u := 8) rfl (by omega) (by omega) F
    have k1 : gi (pt h 68 x (nJ 0)) 68 x = nJ 0 := gi_ptn hh bx (by omega) (by omega) (by omega)
    have o1 : ∀ v, v ≠ x → gi (pt h 68 x (nJ 0)) 68 v = gi h 68 v := fun v hv => gi_ne (fun _ => hv)
    generalize pt h 68 x (nJ 0) = a at h1 F1 k1 o1 ⊢
    obtain ⟨mw, hmw, gw, bmw⟩ := N w wn
    have bwx : isB mw x = true := by
      rw [bmw x (by omega)]
      exact decide_eq_true ⟨xn, zx, zw, ad.elim .inr .inl⟩
    obtain ⟨m2, hm2, am, bm2⟩ := an_any hmw (show x < 9 by omega) bwx
    refine E_al rfl B0 ?_
    refine E_ogr (q := 68) rfl h1 rfl rfl ?_
    refine E_il rfl K2 ?_
    refine E_dup2 rfl rfl rfl ?_
    refine E_ial rfl h1 rfl (by omega) (by decide) ((o1 w wx).trans gw) ?_
    refine E_ci 1 rfl ci1 ?_
    refine E_il rfl B4 ?_
    refine E_bin rfl (show nJ 1 <<< (nJ x &&& 31) = nJ (2 ^ x) from shl_tab ⟨x, by omega⟩) ?_
    refine E_c rfl ?_
    refine E_bin rfl rfl ?_
    refine E_bin rfl am ?_
    refine E_ias rfl h1 rfl (by omega) (by decide) ?_
    have h2' : HH (pt a 68 w (nJ m2)) := HH_ptn h1 bw8 (by omega) (by omega) (by omega)
    have k2 : gi (pt a 68 w (nJ m2)) 68 w = nJ m2 := gi_ptn h1 bw8 (by omega) (by omega) (by omega)
    have o2 : ∀ v, v ≠ w → gi (pt a 68 w (nJ m2)) 68 v = gi a 68 v := fun v hv => gi_ne (fun _ => hv)
    refine E_inc rfl (kp2 3 _ (nbz rfl) rfl (kp 3 _ (nbz rfl) rfl L3)) (nJ_inc _) (fun lv3 K3 kp3 => ?_)
    refine E_goto rfl ?_
    have bit : ∀ c, c ≤ n → isB (g + 2 ^ x) c = (c == x || isB g c) := fun c hc => isB_add gl (by omega) (by omega) zx
    refine ih (k := k + 1) (g := g + 2 ^ x) (wr := nJ w) lv3 (by omega) h2' (fr_ptr (l := 0) (u := 8) rfl (by omega) (by omega) F1) (fun v hv => ?_) ⟨g, x, S, LE, rfl⟩ (isB_add_lt gl (by omega) zx) (by rw [pcn_add gl (by omega) zx (by omega), if_pos (by omega), pc]) (CI_step n8 gl DF C xn zx l1) (.inr ⟨w, ⟨g, x, by rw [show k + 1 - 1 = k by omega]; exact S, LE, OE⟩, rfl⟩) (kp3 0 _ (nbz rfl) rfl B0) (kp3 1 _ (nbz rfl) rfl (kp2 1 _ (nbz rfl) rfl (kp 1 _ (nbz rfl) rfl L1))) (kp3 2 _ (nbz rfl) rfl K2) K3
    by_cases ev : v = x
    · refine ⟨0, by omega, by rw [ev, o2 x (Ne.symm wx)]; exact k1, fun j hj => ?_⟩
      rw [isB_zero]
      exact (decide_eq_false (fun q => by
        have := q.2.2.1
        rw [ev, bit x xn, show (x == x) = true from beq_self_eq_true _] at this
        cases this)).symm
    · by_cases ew : v = w
      · refine ⟨m2, hm2, by rw [ew]; exact k2, fun j hj => ?_⟩
        rw [bm2 j hj, bmw j hj, nbp_new bit hv ev, ew]
      · obtain ⟨mv, hmv, gv, bmv⟩ := N v hv
        refine ⟨mv, hmv, by rw [o2 v ew, o1 v ev]; exact gv, fun j hj => ?_⟩
        rw [bmv j hj, nbp_new bit hv ev]
        by_cases jx : j = x
        · have z : nbp pa n g x v = false := by
            cases q : nbp pa n g x v
            · rfl
            · obtain ⟨-, -, zv, ad2⟩ := of_decide_eq_true q
              exact absurd (OEn_u l1 ⟨hv, zv, ad2.elim .inr .inl⟩ OE) ew
          rw [jx, z, Bool.and_false]
        · rw [show (j == x) = false from beq_eq_false_iff_ne.mpr jx]; rfl
theorem sp_codeNumber8 {h : pm_H} {i : Nat} (hh : HH h) (n8 : n ≤ 8) (T : ∀ v, 1 ≤ v → v ≤ n → gi h 65 v = nJ (pa v)) (D : DT n pa) (g5 : gi h 64 5 = nJ (n + 1)) (hi : i + 1 < n) : Sp (d + 3) 61 h [.ref 64, .int (nJ i)] (fun h' r => HH h' ∧ fr_g NF h h' ∧ ∃ w, WRn pa n i w ∧ r = some (.int (nJ w))) := by
  refine Sp_of aiX7_codeNumber rfl rfl rfl ?_
  have L0 : pm_get (lv_args 0 [.ref 64, .int (nJ i)]) 0 = some (.ref 64) := rfl
  have L1 : pm_get (lv_args 0 [.ref 64, .int (nJ i)]) 1 = some (.int (nJ i)) := rfl
  generalize lv_args 0 [.ref 64, .int (nJ i)] = lv at L0 L1 ⊢
  refine E_al rfl L0 ?_
  refine E_call rfl (sp_clear8 (d := d + 1) hh n8 g5) (chkO (a := 64) hh rfl rfl rfl rfl (by show 0 ≤ 8; decide)) (fun h1 r1 => ?_)
  rintro ⟨e1, hh1, f1, N1⟩
  rw [e1]
  refine E_ci 1 rfl ci1 ?_
  refine E_is rfl (fun lv1 K2 kp => ?_)
  refine cf_loop (h0 := h) (d := d) n8 T D g5 (fun {g} lv hg F N M0 M1 => ?_) n (k := 0) lv1 (by omega) hh1 f1 N1 (kp 0 _ (nbz rfl) rfl L0) (kp 1 _ (nbz rfl) rfl L1) K2
  refine E_c rfl ?_
  refine E_is rfl (fun lv2 K2 kp2 => ?_)
  refine E_ci 0 rfl ci0 ?_
  refine E_is rfl (fun lv3 K3 kp3 => ?_)
  exact cs_loop (h0 := h) (d := d) n8 D hi g5 (i + 1) (k := 0) (g := 0) lv3 (by omega) hg F (fun v hv => NR_cg (fun j _ => lims_nbp D hv) (N v hv)) rfl (by omega) (pcn_zero _) ⟨0, Nat.zero_le _, isB_zero _, fun v _ _ v3 => ⟨v3, isB_zero _⟩, .inl rfl⟩ (.inl rfl) (kp3 0 _ (nbz rfl) rfl (kp2 0 _ (nbz rfl) rfl M0)) (kp3 1 _ (nbz rfl) rfl (kp2 1 _ (nbz rfl) rfl M1)) (kp3 2 _ (nbz rfl) rfl K2) K3
end CNB
/-! the reference -/
section CNR
theorem oex_loop {h : pm_H} {d node g : Nat} (hh : HH h) (hn : node ≤ 8) (hg : g < 512) (hu : upl (gn h 92) g node = 0) (j : Nat) : ∀ {k : Nat} (lv : List (Nat × Value)), k + j = gn h 84 0 + 1 → 1 ≤ k → (∀ k1, k1 < k → ind (gn h 92) g node k1 = 0) → pm_get lv 0 = some (.ref 77) → pm_get lv 1 = some (.int (nJ node)) → pm_get lv 2 = some (.int (nJ g)) → pm_get lv 3 = some (.int (nJ k)) → Ends (pm_at tX9_otherEnd) (pm_Rt pm_P (d + 1)) (26, lv, [], h, 0, 0) (fun h' r => h' = h ∧ ∃ x : Int32, r = some (.int x) ∧ (limb (gn h 92) g node (gn h 84 0) ≠ 0 → ∃ v, OEn (gn h 92) (gn h 84 0) g node v ∧ x = nJ v)) := by
  have hP8 : gn h 84 0 ≤ 8 := gn_hi hh rfl (by decide)
  induction j with
  | zero =>
    intro k lv hj hk hz L0 L1 L2 L3
    refine E_il rfl L3 ?_
    refine E_al rfl L0 ?_
    refine E_call rfl (sp_places hh) (chk77 hh rfl rfl (by show 1 ≤ 8; decide)) (fun h1 r1 => ?_)
    rintro ⟨e1, f1, c1⟩
    rw [e1, f1]
    show Ends _ _ (31, lv, [.int (nJ (gn h 84 0)), .int (nJ k)], h, 0, 0) _
    refine E_icT rfl (decide_eq_true ((nJ_lt (by omega) (by omega)).mpr (by omega))) ?_
    refine E_c rfl ?_
    exact E_rti rfl ⟨rfl, _, rfl, fun q => absurd (show limb (gn h 92) g node (gn h 84 0) = 0 by unfold limb; rw [hu, lc_none (fun v hv => hz v (by omega))]) q⟩
  | succ j ih =>
    intro k lv hj hk hz L0 L1 L2 L3
    refine E_il rfl L3 ?_
    refine E_al rfl L0 ?_
    refine E_call rfl (sp_places hh) (chk77 hh rfl rfl (by show 1 ≤ 8; decide)) (fun h1 r1 => ?_)
    rintro ⟨e1, f1, c1⟩
    rw [e1, f1]
    show Ends _ _ (31, lv, [.int (nJ (gn h 84 0)), .int (nJ k)], h, 0, 0) _
    refine E_icF rfl (decide_eq_false (fun q => absurd ((nJ_lt (by omega) (by omega)).mp q) (by omega))) ?_
    refine E_al rfl L0 ?_
    refine E_gr rfl hh (q := 92) rfl ?_
    refine E_il rfl L3 ?_
    have b2 : gn h 92 k ≤ 8 := gn_hi hh (bd_u rfl (by omega)) (by decide)
    refine E_ial rfl hh rfl (by omega) (by decide) (gi_gn hh (bd_u rfl (by omega)) (by decide)) ?_
    refine E_il rfl L1 ?_
    by_cases hb3 : ¬ (gn h 92 k) = node
    · refine E_icT rfl (decide_eq_true (fun q => hb3 ((nJ_eq (by omega) (by omega)).mp q))) ?_
      have hZ : ¬ (1 ≤ k ∧ gn h 92 k = node ∧ isB g k = false) := fun q => hb3 q.2.1
      refine E_inc rfl L3 (nJ_inc _) (fun lv4 L4_3 kp4 => ?_)
      have L4_0 := kp4 0 _ (nbz rfl) rfl L0
      have L4_1 := kp4 1 _ (nbz rfl) rfl L1
      have L4_2 := kp4 2 _ (nbz rfl) rfl L2
      refine E_goto rfl ?_
      refine ih lv4 (by omega) (by omega) (fun k1 h1 => ?_) L4_0 L4_1 L4_2 L4_3
      by_cases e : k1 = k
      · rw [e]; exact ind_F hZ
      · exact hz k1 (by omega)
    · refine E_icF rfl (decide_eq_false (fun q => hb3 (fun z => q ((nJ_eq (by omega) (by omega)).mpr z)))) ?_
      refine E_il rfl L2 ?_
      refine E_il rfl L3 ?_
      refine E_call rfl (sp_isBit (by omega) (by omega)) (chkS rfl (by show 0 ≤ 8; decide)) (fun h5 r5 => ?_)
      rintro ⟨e5, f5⟩
      rw [e5, f5]
      show Ends _ _ (49, lv, [.int (nJ (bif isB g k then 1 else 0))], h, 0, 0) _
      by_cases hb6 : isB g k = true
      · refine E_ifT rfl (by rw [hb6]; rfl) ?_
        have hZ : ¬ (1 ≤ k ∧ gn h 92 k = node ∧ isB g k = false) := fun q => by rw [q.2.2] at hb6; cases hb6
        refine E_inc rfl L3 (nJ_inc _) (fun lv7 L7_3 kp7 => ?_)
        have L7_0 := kp7 0 _ (nbz rfl) rfl L0
        have L7_1 := kp7 1 _ (nbz rfl) rfl L1
        have L7_2 := kp7 2 _ (nbz rfl) rfl L2
        refine E_goto rfl ?_
        refine ih lv7 (by omega) (by omega) (fun k1 h1 => ?_) L7_0 L7_1 L7_2 L7_3
        by_cases e : k1 = k
        · rw [e]; exact ind_F hZ
        · exact hz k1 (by omega)
      · refine E_ifF rfl (by rw [Bool.not_eq_true] at hb6; rw [hb6]; rfl) ?_
        refine E_il rfl L3 ?_
        exact E_rti rfl ⟨rfl, _, rfl, fun _ => ⟨k, ⟨by omega, by rw [Bool.not_eq_true] at hb6; exact hb6, .inr ⟨Nat.ne_of_gt hk, Classical.not_not.mp hb3⟩⟩, rfl⟩⟩
theorem sp_otherEndX {h : pm_H} {d node g : Nat} (hh : HH h) (hn : node ≤ 8) (hg : g < 512) (hF : node ≠ 0 → gn h 92 node ≤ gn h 84 0) : Sp (d + 2) 318 h [.ref 77, .int (nJ node), .int (nJ g)] (fun h' r => h' = h ∧ ∃ x : Int32, r = some (.int x) ∧ (limb (gn h 92) g node (gn h 84 0) ≠ 0 → ∃ v, OEn (gn h 92) (gn h 84 0) g node v ∧ x = nJ v)) := by
  refine Sp_of aiX9_otherEnd rfl rfl rfl ?_
  refine E_il rfl (show pm_get (lv_args 0 [.ref 77, .int (nJ node), .int (nJ g)]) 1 = _ from rfl) ?_
  by_cases hb1 : node = 0
  · refine E_ifT rfl (decide_eq_true ((nJ_eq0 (by omega)).mpr hb1)) ?_
    have hZ : ¬ (node ≠ 0 ∧ isB g (gn h 92 node) = false) := fun q => q.1 hb1
    refine E_ci 1 rfl ci1 ?_
    refine E_is rfl (fun lv2 L2_3 kp2 => ?_)
    have L2_0 := kp2 0 _ (nbz rfl) rfl (show pm_get (lv_args 0 [.ref 77, .int (nJ node), .int (nJ g)]) 0 = _ from rfl)
    have L2_1 := kp2 1 _ (nbz rfl) rfl (show pm_get (lv_args 0 [.ref 77, .int (nJ node), .int (nJ g)]) 1 = _ from rfl)
    have L2_2 := kp2 2 _ (nbz rfl) rfl (show pm_get (lv_args 0 [.ref 77, .int (nJ node), .int (nJ g)]) 2 = _ from rfl)
    exact oex_loop hh hn hg (if_neg hZ) (gn h 84 0) (k := 1) lv2 (by omega) (by omega) (fun k1 h1 => ind_F (fun q => by omega)) L2_0 L2_1 L2_2 L2_3
  · refine E_ifF rfl (decide_eq_false (fun q => hb1 ((nJ_eq0 (by omega)).mp q))) ?_
    have hX : node ≠ 0 := hb1
    refine E_il rfl (show pm_get (lv_args 0 [.ref 77, .int (nJ node), .int (nJ g)]) 2 = _ from rfl) ?_
    refine E_al rfl (show pm_get (lv_args 0 [.ref 77, .int (nJ node), .int (nJ g)]) 0 = _ from rfl) ?_
    refine E_gr rfl hh (q := 92) rfl ?_
    refine E_il rfl (show pm_get (lv_args 0 [.ref 77, .int (nJ node), .int (nJ g)]) 1 = _ from rfl) ?_
    have b3 : gn h 92 node ≤ 8 := gn_hi hh (bd_u rfl (by omega)) (by decide)
    refine E_ial rfl hh rfl (by omega) (by decide) (gi_gn hh (bd_u rfl (by omega)) (by decide)) ?_
    refine E_call rfl (sp_isBit (by omega) (by omega)) (chkS rfl (by show 0 ≤ 8; decide)) (fun h4 r4 => ?_)
    rintro ⟨e4, f4⟩
    rw [e4, f4]
    show Ends _ _ (14, (lv_args 0 [.ref 77, .int (nJ node), .int (nJ g)]), [.int (nJ (bif isB g ((gn h 92 node)) then 1 else 0))], h, 0, 0) _
    by_cases hb5 : isB g ((gn h 92 node)) = true
    · refine E_ifT rfl (by rw [hb5]; rfl) ?_
      have hZ : ¬ (node ≠ 0 ∧ isB g (gn h 92 node) = false) := fun q => by rw [q.2] at hb5; cases hb5
      refine E_ci 1 rfl ci1 ?_
      refine E_is rfl (fun lv6 L6_3 kp6 => ?_)
      have L6_0 := kp6 0 _ (nbz rfl) rfl (show pm_get (lv_args 0 [.ref 77, .int (nJ node), .int (nJ g)]) 0 = _ from rfl)
      have L6_1 := kp6 1 _ (nbz rfl) rfl (show pm_get (lv_args 0 [.ref 77, .int (nJ node), .int (nJ g)]) 1 = _ from rfl)
      have L6_2 := kp6 2 _ (nbz rfl) rfl (show pm_get (lv_args 0 [.ref 77, .int (nJ node), .int (nJ g)]) 2 = _ from rfl)
      exact oex_loop hh hn hg (if_neg hZ) (gn h 84 0) (k := 1) lv6 (by omega) (by omega) (fun k1 h1 => ind_F (fun q => by omega)) L6_0 L6_1 L6_2 L6_3
    · refine E_ifF rfl (by rw [Bool.not_eq_true] at hb5; rw [hb5]; rfl) ?_
      refine E_al rfl (show pm_get (lv_args 0 [.ref 77, .int (nJ node), .int (nJ g)]) 0 = _ from rfl) ?_
      refine E_gr rfl hh (q := 92) rfl ?_
      refine E_il rfl (show pm_get (lv_args 0 [.ref 77, .int (nJ node), .int (nJ g)]) 1 = _ from rfl) ?_
      have b7 : gn h 92 node ≤ 8 := gn_hi hh (bd_u rfl (by omega)) (by decide)
      refine E_ial rfl hh rfl (by omega) (by decide) (gi_gn hh (bd_u rfl (by omega)) (by decide)) ?_
      exact E_rti rfl ⟨rfl, _, rfl, fun _ => ⟨gn h 92 node, ⟨hF hX, by rw [Bool.not_eq_true] at hb5; exact hb5, .inl ⟨hX, rfl⟩⟩, rfl⟩⟩
theorem lcx_in {h0 : pm_H} {d P : Nat} (hh0 : HH h0) (hP : gn h0 84 0 = P) (hP8 : P ≤ 8) (hP1 : 1 ≤ P) (hD : ∀ v, 1 ≤ v → v ≤ P → dep (hg h0) 8 v ∧ gn h0 92 v ≤ P) {h : pm_H} {i g : Nat} (hh : HH h) (hg : g < 512) (hfe : gn h 92 = gn h0 92) (hpe : gn h 84 0 = P) (hle : ∃ v, v ≤ P ∧ isB g v = false ∧ limb (gn h0 92) g v P = 1) (K : ∀ {x : Nat} (lv : List (Nat × Value)), LEn (gn h0 92) P g x → pm_get lv 0 = some (.ref 77) → pm_get lv 1 = some (.int (nJ (P + 1))) → pm_get lv 2 = some (.int (nJ g)) → pm_get lv 3 = some (.int (nJ i)) → pm_get lv 4 = some (.int (nJ x)) → Ends (pm_at tX9_laysCode) (pm_Rt pm_P (d + 3)) (61, lv, [], h, 0, 0) (fun h' r => r = none ∧ HH h' ∧ fr_g NM h0 h' ∧ ∀ m, m < P - 1 → ∃ w, WRn (gn h0 92) P m w ∧ gi h' 95 m = nJ w)) (j : Nat) : ∀ {l : Int32} (lv : List (Nat × Value)), j ≤ P + 1 → ((l = -1 ∧ ∀ v, j ≤ v → v ≤ P → ¬ (isB g v = false ∧ limb (gn h0 92) g v P = 1)) ∨ ∃ x, l = nJ x ∧ x ≤ P ∧ isB g x = false ∧ limb (gn h0 92) g x P = 1 ∧ ∀ y, j ≤ y → y < x → ¬ (isB g y = false ∧ limb (gn h0 92) g y P = 1)) → pm_get lv 0 = some (.ref 77) → pm_get lv 1 = some (.int (nJ (P + 1))) → pm_get lv 2 = some (.int (nJ g)) → pm_get lv 3 = some (.int (nJ i)) → pm_get lv 4 = some (.int l) → pm_get lv 5 = some (.int (pI j)) → Ends (pm_at tX9_laysCode) (pm_Rt pm_P (d + 3)) (26, lv, [], h, 0, 0) (fun h' r => r = none ∧ HH h' ∧ fr_g NM h0 h' ∧ ∀ m, m < P - 1 → ∃ w, WRn (gn h0 92) P m w ∧ gi h' 95 m = nJ w) := by
  induction j with
  | zero =>
    intro l lv hj hl L0 L1 L2 L3 L4 L5
    refine E_il rfl L5 ?_
    refine E_ifT rfl (by decide) ?_
    rcases hl with ⟨q1, q2⟩ | ⟨x, x1, x2, x3, x4, x5⟩
    · obtain ⟨v, v1, v2, v3⟩ := hle; exact absurd ⟨v2, v3⟩ (q2 v (Nat.zero_le _) v1)
    · subst x1; exact K lv ⟨x2, x3, x4, fun y hy => x5 y (Nat.zero_le _) hy⟩ L0 L1 L2 L3 L4
  | succ k ih =>
    intro l lv hj hl L0 L1 L2 L3 L4 L5
    have L5 : pm_get lv 5 = some (.int (nJ k)) := L5
    refine E_il rfl L5 ?_
    refine E_ifF rfl (decide_eq_false (nJ_lt0 (by omega))) ?_
    refine E_il rfl L2 ?_
    refine E_il rfl L5 ?_
    refine E_call rfl (sp_isBit (by omega) (by omega)) (chkS rfl (by show 0 ≤ 8; decide)) (fun h1 r1 => ?_)
    rintro ⟨e1, f1⟩
    rw [e1, f1]
    show Ends _ _ (37, lv, [.int (nJ (bif isB g k then 1 else 0))], h, 0, 0) _
    by_cases hb2 : isB g k = true
    · refine E_ifT rfl (by rw [hb2]; rfl) ?_
      have hZ : ¬ (isB g k = false ∧ limb (gn h0 92) g k P = 1) := fun q => by rw [q.1] at hb2; cases hb2
      refine E_inc rfl L5 (pI_dec _) (fun lv3 L3_5 kp3 => ?_)
      have L3_0 := kp3 0 _ (nbz rfl) rfl L0
      have L3_1 := kp3 1 _ (nbz rfl) rfl L1
      have L3_2 := kp3 2 _ (nbz rfl) rfl L2
      have L3_3 := kp3 3 _ (nbz rfl) rfl L3
      have L3_4 := kp3 4 _ (nbz rfl) rfl L4
      refine E_goto rfl ?_
      refine ih lv3 (by omega) ?_ L3_0 L3_1 L3_2 L3_3 L3_4 L3_5
      rcases hl with ⟨q1, q2⟩ | q
      · refine .inl ⟨q1, fun v v1 v2 => ?_⟩
        by_cases e : v = k
        · rw [e]; exact hZ
        · exact q2 v (by omega) v2
      · obtain ⟨x, x1, x2, x3, x4, x5⟩ := q
        refine .inr ⟨x, x1, x2, x3, x4, fun y y1 y2 => ?_⟩
        by_cases e : y = k
        · rw [e]; exact hZ
        · exact x5 y (by omega) y2
    · refine E_ifF rfl (by rw [Bool.not_eq_true] at hb2; rw [hb2]; rfl) ?_
      have hX : isB g k = false := by rw [Bool.not_eq_true] at hb2; exact hb2
      refine E_al rfl L0 ?_
      refine E_il rfl L5 ?_
      refine E_il rfl L2 ?_
      refine E_call rfl (Sp_le (by first | exact Nat.add_le_add_left (Nat.le_of_ble_eq_true rfl) _ | exact Nat.le_of_ble_eq_true rfl | omega) (sp_limbsOf (d := 0) hh (by omega) (by omega))) (chk77 hh rfl rfl (by show 0 ≤ 8; decide)) (fun h4 r4 => ?_)
      rintro ⟨e4, f4⟩
      rw [e4, f4, hfe, hpe]
      have hl9 := limb_le (gn h0 92) g k P
      show Ends _ _ (47, lv, [.int (nJ (limb (gn h0 92) g k P))], h, 0, 0) _
      refine E_ci 1 rfl ci1 ?_
      by_cases hb5 : ¬ (limb (gn h0 92) g k P) = 1
      · refine E_icT rfl (decide_eq_true (fun q => hb5 ((nJ_eq (by omega) (by omega)).mp q))) ?_
        have hZ : ¬ (isB g k = false ∧ limb (gn h0 92) g k P = 1) := fun q => hb5 q.2
        refine E_inc rfl L5 (pI_dec _) (fun lv6 L6_5 kp6 => ?_)
        have L6_0 := kp6 0 _ (nbz rfl) rfl L0
        have L6_1 := kp6 1 _ (nbz rfl) rfl L1
        have L6_2 := kp6 2 _ (nbz rfl) rfl L2
        have L6_3 := kp6 3 _ (nbz rfl) rfl L3
        have L6_4 := kp6 4 _ (nbz rfl) rfl L4
        refine E_goto rfl ?_
        refine ih lv6 (by omega) ?_ L6_0 L6_1 L6_2 L6_3 L6_4 L6_5
        rcases hl with ⟨q1, q2⟩ | q
        · refine .inl ⟨q1, fun v v1 v2 => ?_⟩
          by_cases e : v = k
          · rw [e]; exact hZ
          · exact q2 v (by omega) v2
        · obtain ⟨x, x1, x2, x3, x4, x5⟩ := q
          refine .inr ⟨x, x1, x2, x3, x4, fun y y1 y2 => ?_⟩
          by_cases e : y = k
          · rw [e]; exact hZ
          · exact x5 y (by omega) y2
      · refine E_icF rfl (decide_eq_false (fun q => hb5 (fun z => q ((nJ_eq (by omega) (by omega)).mpr z)))) ?_
        have hY : limb (gn h0 92) g k P = 1 := Classical.not_not.mp hb5
        refine E_il rfl L5 ?_
        refine E_is rfl (fun lv7 L7_4 kp7 => ?_)
        have L7_0 := kp7 0 _ (nbz rfl) rfl L0
        have L7_1 := kp7 1 _ (nbz rfl) rfl L1
        have L7_2 := kp7 2 _ (nbz rfl) rfl L2
        have L7_3 := kp7 3 _ (nbz rfl) rfl L3
        have L7_5 := kp7 5 _ (nbz rfl) rfl L5
        refine E_inc rfl L7_5 (pI_dec _) (fun lv8 L8_5 kp8 => ?_)
        have L8_0 := kp8 0 _ (nbz rfl) rfl L7_0
        have L8_1 := kp8 1 _ (nbz rfl) rfl L7_1
        have L8_2 := kp8 2 _ (nbz rfl) rfl L7_2
        have L8_3 := kp8 3 _ (nbz rfl) rfl L7_3
        have L8_4 := kp8 4 _ (nbz rfl) rfl L7_4
        refine E_goto rfl ?_
        exact ih lv8 (by omega) (.inr ⟨k, rfl, by omega, hX, hY, fun y y1 y2 => absurd y1 (by omega)⟩) L8_0 L8_1 L8_2 L8_3 L8_4 L8_5
theorem lcx_out {h0 : pm_H} {d P : Nat} (hh0 : HH h0) (hP : gn h0 84 0 = P) (hP8 : P ≤ 8) (hP1 : 1 ≤ P) (hD : ∀ v, 1 ≤ v → v ≤ P → dep (hg h0) 8 v ∧ gn h0 92 v ≤ P) (j : Nat) : ∀ {h : pm_H} {i g : Nat} (lv : List (Nat × Value)), i + j = P - 1 → LC h0 h P i g → CSt (gn h0 92) P i g → (∀ m, m < i → ∃ w, WRn (gn h0 92) P m w ∧ gi h 95 m = nJ w) → pm_get lv 0 = some (.ref 77) → pm_get lv 1 = some (.int (nJ (P + 1))) → pm_get lv 2 = some (.int (nJ g)) → pm_get lv 3 = some (.int (nJ i)) → Ends (pm_at tX9_laysCode) (pm_Rt pm_P (d + 3)) (11, lv, [], h, 0, 0) (fun h' r => r = none ∧ HH h' ∧ fr_g NM h0 h' ∧ ∀ m, m < P - 1 → ∃ w, WRn (gn h0 92) P m w ∧ gi h' 95 m = nJ w) := by
  induction j with
  | zero =>
    intro h i g lv hj hL hC hW L0 L1 L2 L3
    refine E_il rfl L3 ?_
    refine E_il rfl L1 ?_
    refine E_ci 2 rfl ci2 ?_
    refine E_bin rfl (nJ_sub (by omega)) ?_
    refine E_icT rfl (decide_eq_true ((nJ_le (by omega) (by omega)).mpr (by omega))) ?_
    exact E_ret rfl ⟨rfl, hL.1, hL.2.1, fun m hm => hW m (by omega)⟩
  | succ j ih =>
    intro h i g lv hj hL hC hW L0 L1 L2 L3
    have hgl := hL.2.2.1
    have hpe : gn h 84 0 = P := by rw [fr_gn hL.2.1 (rg_no rfl _)]; exact hP
    refine E_il rfl L3 ?_
    refine E_il rfl L1 ?_
    refine E_ci 2 rfl ci2 ?_
    refine E_bin rfl (nJ_sub (by omega)) ?_
    refine E_icF rfl (decide_eq_false (fun q => absurd ((nJ_le (by omega) (by omega)).mp q) (by omega))) ?_
    refine E_c rfl ?_
    refine E_is rfl (fun lv1 L1_4 kp1 => ?_)
    have L1_0 := kp1 0 _ (nbz rfl) rfl L0
    have L1_1 := kp1 1 _ (nbz rfl) rfl L1
    have L1_2 := kp1 2 _ (nbz rfl) rfl L2
    have L1_3 := kp1 3 _ (nbz rfl) rfl L3
    refine E_il rfl L1_1 ?_
    refine E_ci 1 rfl ci1 ?_
    refine E_bin rfl (pI_of _) ?_
    refine E_is rfl (fun lv2 L2_5 kp2 => ?_)
    have L2_0 := kp2 0 _ (nbz rfl) rfl L1_0
    have L2_1 := kp2 1 _ (nbz rfl) rfl L1_1
    have L2_2 := kp2 2 _ (nbz rfl) rfl L1_2
    have L2_3 := kp2 3 _ (nbz rfl) rfl L1_3
    have L2_4 := kp2 4 _ (nbz rfl) rfl L1_4
    have hfe : gn h 92 = gn h0 92 := funext (fun v => fr_gn hL.2.1 (rg_no rfl _))
    have hle := leaf_in hP8 hL.2.2.1 hL.2.2.2.2 (fun v a b => by have := (hD v a b).1; rw [hg_gn] at this; exact this) (by rw [hL.2.2.2.1]; omega)
    refine lcx_in hh0 hP hP8 hP1 hD hL.1 hL.2.2.1 hfe hpe hle (fun {x} lv1 xL K0 K1 K2 K3 K4 => ?_) (P + 1) lv2 (by omega) (.inl ⟨rfl, fun v a b => by omega⟩) L2_0 L2_1 L2_2 L2_3 L2_4 L2_5
    obtain ⟨x2, x3, x4, -⟩ := id xL
    obtain ⟨g2, hg2⟩ : ∃ g2, g2 = g + 2 ^ x := ⟨_, rfl⟩
    have hg2l : g2 < 512 := by rw [hg2]; exact isB_add_lt hL.2.2.1 (by omega) x3
    refine E_al rfl K0 ?_
    refine E_gr rfl hL.1 (q := 95) rfl ?_
    refine E_il rfl K3 ?_
    refine E_al rfl K0 ?_
    refine E_il rfl K4 ?_
    refine E_il rfl K2 ?_
    refine E_call rfl (Sp_le (by first | exact Nat.add_le_add_left (Nat.le_of_ble_eq_true rfl) _ | exact Nat.le_of_ble_eq_true rfl | omega) (sp_otherEndX (d := 0) hL.1 (by omega) (by omega) (fun q => by rw [hfe, hpe]; exact (hD x (Nat.pos_of_ne_zero q) x2).2))) (chk77 hL.1 rfl rfl (by show 2 ≤ 8; decide)) (fun h51 r51 => ?_)
    rintro ⟨e51, y51, f51, g51⟩
    obtain ⟨v9, oe9, rfl⟩ := g51 (by rw [hfe, hpe, x4]; decide)
    rw [hfe, hpe] at oe9
    have hv9 : v9 ≤ 8 := Nat.le_trans oe9.1 hP8
    rw [e51, f51]
    show Ends _ _ (73, lv1, [.int (nJ v9), .int (nJ i), .ref 95], h, 0, 0) _
    refine E_ias rfl hL.1 rfl (by omega) (by decide) ?_
    have hh52 : HH (pt h 95 i (nJ v9)) := HH_ptn hL.1 (bd_u rfl (by omega)) (by omega) (by omega) (by omega)
    refine E_il rfl K2 ?_
    refine E_ci 1 rfl ci1 ?_
    refine E_il rfl K4 ?_
    refine E_bin rfl rfl ?_
    refine E_bin rfl (show nJ g ||| nJ 1 <<< (nJ x &&& 31) = nJ g2 from (by rw [hg2]; exact or_new hL.2.2.1 (by omega) x3)) ?_
    refine E_is rfl (fun lv53 L53_2 kp53 => ?_)
    have L53_0 := kp53 0 _ (nbz rfl) rfl K0
    have L53_1 := kp53 1 _ (nbz rfl) rfl K1
    have L53_3 := kp53 3 _ (nbz rfl) rfl K3
    have L53_4 := kp53 4 _ (nbz rfl) rfl K4
    refine E_inc rfl L53_3 (nJ_inc _) (fun lv54 L54_3 kp54 => ?_)
    have L54_0 := kp54 0 _ (nbz rfl) rfl L53_0
    have L54_1 := kp54 1 _ (nbz rfl) rfl L53_1
    have L54_2 := kp54 2 _ (nbz rfl) rfl L53_2
    have L54_4 := kp54 4 _ (nbz rfl) rfl L53_4
    refine E_goto rfl ?_
    refine ih (i := i + 1) (g := g2) lv54 (by omega) ⟨hh52, fr_ptr (l := 0) (u := 7) rfl (by omega) (by omega) hL.2.1, hg2l, by rw [hg2, pcn_add hL.2.2.1 (by omega) x3 (by omega), if_pos (by omega), hL.2.2.2.1], hg2 ▸ CI_step hP8 hL.2.2.1 (fun v a b => (hD v a b).2) hL.2.2.2.2 x2 x3 x4⟩ ⟨g, x, hC, xL, hg2⟩ (fun m hm => ?_) L54_0 L54_1 L54_2 L54_3
    by_cases e : m = i
    · rw [e]
      exact ⟨v9, ⟨g, x, hC, xL, oe9⟩, gi_ptn hL.1 (bd_u rfl (by omega)) (by omega) (by omega) (by omega)⟩
    · rw [gi_ne (fun _ => e)]
      exact hW m (by omega)
theorem sp_laysCodeX {h0 : pm_H} {d : Nat} (hh : HH h0) (hP1 : 1 ≤ gn h0 84 0) (hD : ∀ v, 1 ≤ v → v ≤ gn h0 84 0 → dep (hg h0) 8 v ∧ gn h0 92 v ≤ gn h0 84 0) : Sp (d + 4) 295 h0 [.ref 77] (fun h' r => r = none ∧ HH h' ∧ fr_g NM h0 h' ∧ ∀ m, m < gn h0 84 0 - 1 → ∃ w, WRn (gn h0 92) (gn h0 84 0) m w ∧ gi h' 95 m = nJ w) := by
  refine Sp_of aiX9_laysCode rfl rfl rfl ?_
  refine E_al rfl (show pm_get (lv_args 0 [.ref 77]) 0 = _ from rfl) ?_
  refine E_call rfl (sp_places hh) (chk77 hh rfl rfl (by show 0 ≤ 8; decide)) (fun h1 r1 => ?_)
  rintro ⟨e1, f1, c1⟩
  rw [e1, f1]
  show Ends _ _ (4, (lv_args 0 [.ref 77]), [.int (nJ (gn h0 84 0))], h0, 0, 0) _
  refine E_ci 1 rfl ci1 ?_
  refine E_bin rfl (nJ_add _ _) ?_
  refine E_is rfl (fun lv2 L2_1 kp2 => ?_)
  have L2_0 := kp2 0 _ (nbz rfl) rfl (show pm_get (lv_args 0 [.ref 77]) 0 = _ from rfl)
  refine E_ci 0 rfl ci0 ?_
  refine E_is rfl (fun lv3 L3_2 kp3 => ?_)
  have L3_0 := kp3 0 _ (nbz rfl) rfl L2_0
  have L3_1 := kp3 1 _ (nbz rfl) rfl L2_1
  refine E_ci 0 rfl ci0 ?_
  refine E_is rfl (fun lv4 L4_3 kp4 => ?_)
  have L4_0 := kp4 0 _ (nbz rfl) rfl L3_0
  have L4_1 := kp4 1 _ (nbz rfl) rfl L3_1
  have L4_2 := kp4 2 _ (nbz rfl) rfl L3_2
  exact lcx_out (P := gn h0 84 0) hh rfl (by omega) hP1 hD (gn h0 84 0 - 1) (i := 0) (g := 0) lv4 (by omega) ⟨hh, fr_rf _ _, by omega, pcn_zero _, 0, Nat.zero_le _, isB_zero _, fun v _ _ v3 => ⟨v3, isB_zero _⟩, .inl rfl⟩ rfl (fun m hm => absurd hm (Nat.not_lt_zero m)) L4_0 L4_1 L4_2 L4_3
end CNR
/-! both -/
theorem dep_cg {f pa : Nat → Nat} {n : Nat} (e : ∀ v, 1 ≤ v → v ≤ n → f v = pa v) (D : ∀ v, 1 ≤ v → v ≤ n → pa v ≤ n) : ∀ (k : Nat) {v : Nat}, v ≤ n → dep pa k v → dep f k v
  | 0, _, _, q => q
  | k + 1, v, hv, q => by
    by_cases z : v = 0
    · exact .inl z
    · refine .inr ?_
      rw [e v (Nat.pos_of_ne_zero z) hv]
      exact dep_cg e D k (D v (Nat.pos_of_ne_zero z) hv) (q.resolve_left z)
section COD
variable {h : pm_H} {d : Nat} {x : Int32}
theorem tq_no {p : Prop} [Decidable p] {v : Int32} (nb : ¬ (decide p = true ∧ LW9 h = true)) : tqv p h v = if decide p = true then -1 else -2 := by
  unfold tqv
  by_cases c : p
  · rw [if_pos c, if_pos (decide_eq_true c), if_neg (fun q => nb ⟨decide_eq_true c, q⟩)]
  · rw [if_neg c, if_neg (by rw [decide_eq_false c]; decide)]
theorem tq_nz {s : Bool} : ¬ (if s = true then (-1 : Int32) else -2) = 0 := by split <;> decide
noncomputable def CRel (h : pm_H) (x r : Int32) : Prop := if (0 < (gi h 83 0).toInt ∧ 0 ≤ x.toInt) ∧ LW9 h = true ∧ x.toInt.toNat + 1 < N9 h then ∃ w, WRn (pT h) (N9 h) x.toInt.toNat w ∧ r = nJ w else r = tqv (0 < (gi h 83 0).toInt ∧ 0 ≤ x.toInt) h (-1)
theorem CRel_K {h h' : pm_H} {r : Int32} (k : K9 h h') : CRel h' x r = CRel h x r := by
  unfold CRel tqv
  rw [k.2.2.2, N9_K k, LW9_K k, pT_K k]
theorem CRel_u {r s : Int32} (a : CRel h x r) (b : CRel h x s) : r = s := by
  unfold CRel at a b
  by_cases c : (0 < (gi h 83 0).toInt ∧ 0 ≤ x.toInt) ∧ LW9 h = true ∧ x.toInt.toNat + 1 < N9 h
  · rw [if_pos c] at a b
    obtain ⟨w, a1, a2⟩ := a
    obtain ⟨u, b1, b2⟩ := b
    rw [a2, b2, WRn_u a1 b1]
  · rw [if_neg c] at a b
    rw [a, b]
theorem sp_code8 (hh : HH h) (R : QRE h) : Sp (d + 7) 92 h [.ref 0, .int x] (fun h' r => K9 h h' ∧ ∃ s : Int32, r = some (.int s) ∧ CRel h x s) := by
  refine Sp_of aiX8_code rfl rfl rfl ?_
  have L0 : pm_get (lv_args 0 [.ref 0, .int x]) 0 = some (.ref 0) := rfl
  have L1 : pm_get (lv_args 0 [.ref 0, .int x]) 1 = some (.int x) := rfl
  generalize lv_args 0 [.ref 0, .int x] = lv at L0 L1 ⊢
  have k0 : K9 h h := ⟨fun _ => rfl, fun _ => rfl, fun _ => rfl, fun _ => rfl⟩
  obtain ⟨l3, p8, n8⟩ := g9s hh
  have B := B9_of R
  have z0 : (0 : Int32).toInt = 0 := rfl
  have go : ∀ lv' : List (Nat × Value), pm_get lv' 0 = some (.ref 0) → pm_get lv' 1 = some (.int x) → Ends (pm_at tX8_code) (pm_Rt pm_P (d + 6)) (17, lv', [.int (zb (decide (0 < (gi h 83 0).toInt ∧ 0 ≤ x.toInt) = true)), .ref 0], h, 0, 0) (fun h' r => K9 h h' ∧ ∃ s : Int32, r = some (.int s) ∧ CRel h x s) := by
    clear L0 L1
    intro lv L0 L1
    refine E_call rfl (Sp_le (by first | exact Nat.add_le_add_left (Nat.le_of_ble_eq_true rfl) _ | exact Nat.le_of_ble_eq_true rfl | omega) (sp_hangTree8 (d := d) (s := decide (0 < (gi h 83 0).toInt ∧ 0 ≤ x.toInt)) hh R)) (chkO (a := 0) hh rfl rfl rfl rfl (by show 0 ≤ 8; decide)) (fun h2 r2 => ?_)
    rintro (⟨nb, e2, f2⟩ | ⟨s1, lw, f2, hh2, F2, T2, k5⟩)
    · rw [e2, f2]
      refine E_is rfl (fun lv1 K2 kp => ?_)
      refine E_il rfl K2 ?_
      refine E_ifF rfl (decide_eq_false tq_nz) ?_
      refine E_il rfl K2 ?_
      exact E_rti rfl ⟨k0, _, rfl, by unfold CRel; rw [if_neg (fun q => nb ⟨decide_eq_true q.1, q.2.1⟩), tq_no nb]⟩
    · rw [f2]
      have c := of_decide_eq_true s1
      have k2 : K9 h h2 := K9_fr F2 rfl rfl rfl rfl
      have D := DT_T lw B
      obtain ⟨a, wb, lq⟩ := LW_wb lw B
      have i0 : gi h2 15 0 = nJ (N9 h) := by rw [fr_gi F2 (rg_no rfl _), a]; exact (CW8_of hh R).2.1
      refine E_is rfl (fun lv1 K2 kp => ?_)
      have A0 := kp 0 _ (nbz rfl) rfl L0
      have A1 := kp 1 _ (nbz rfl) rfl L1
      refine E_il rfl K2 ?_
      refine E_ifT rfl (by decide) ?_
      obtain ⟨m, hm, rfl⟩ := nJ_of2 (n := 2147483647) c.2 (ai_hi x)
      have em : (nJ m).toInt.toNat = m := by have := nJ_toInt (n := m) (by omega); omega
      refine E_il rfl A1 ?_
      refine E_al rfl A0 ?_
      refine E_ogr (q := 15) rfl hh2 rfl rfl ?_
      refine E_ogf (q := (0, 8)) rfl hh2 rfl rfl i0 ?_
      refine E_ci 1 rfl ci1 ?_
      refine E_bin rfl (pI_of _) ?_
      by_cases b : m + 1 < N9 h
      · refine E_icF rfl (decide_eq_false (fun q => Int32.not_le.mpr ((pI_lt (by omega) (by omega)).mpr b) q)) ?_
        refine E_al rfl A0 ?_
        refine E_ogr (q := 64) rfl hh2 rfl rfl ?_
        refine E_il rfl A1 ?_
        refine E_call rfl (Sp_le (by first | exact Nat.add_le_add_left (Nat.le_of_ble_eq_true rfl) _ | exact Nat.le_of_ble_eq_true rfl | omega) (sp_codeNumber8 (d := d) hh2 n8 T2.2 D k5 b)) (chkO (a := 64) hh2 rfl rfl rfl rfl (by show 0 ≤ 8; decide)) (fun h3 r3 => ?_)
        rintro ⟨hh3, f3, w, w1, w2⟩
        rw [w2]
        refine E_goto rfl ?_
        exact E_rti rfl ⟨K9_fr (fr_trans (M := NF ++ TF) (fr_wk rfl F2) (fr_wk rfl f3)) rfl rfl rfl rfl, _, rfl, by unfold CRel; rw [em, if_pos ⟨c, lw, b⟩]; exact ⟨w, w1, rfl⟩⟩
      · refine E_icT rfl (decide_eq_true (Int32.not_lt.mp (fun q => b ((pI_lt (by omega) (by omega)).mp q)))) ?_
        refine E_c rfl ?_
        exact E_rti rfl ⟨k2, _, rfl, by unfold CRel; rw [em, if_neg (fun q => b q.2.2)]; unfold tqv; rw [if_pos c, if_pos lw]⟩
  have no : ¬ (0 < (gi h 83 0).toInt ∧ 0 ≤ x.toInt) → Ends (pm_at tX8_code) (pm_Rt pm_P (d + 6)) (16, lv, [.ref 0], h, 0, 0) (fun h' r => K9 h h' ∧ ∃ s : Int32, r = some (.int s) ∧ CRel h x s) := by
    intro q
    refine E_ci 0 rfl ci0 ?_
    have := go lv L0 L1
    rw [← zb_dec, zb_F q] at this
    exact this
  refine E_al rfl L0 ?_
  refine E_al rfl L0 ?_
  refine E_call rfl (Sp_le (by first | exact Nat.add_le_add_left (Nat.le_of_ble_eq_true rfl) _ | exact Nat.le_of_ble_eq_true rfl | omega) (sp_hasStreet8 (d := d) hh)) (chkO (a := 0) hh rfl rfl rfl rfl (by show 1 ≤ 8; decide)) (fun h1 r1 => ?_)
  rintro ⟨e1, f1⟩
  rw [e1, f1]
  by_cases b : 0 < gn h 15 0
  · refine E_ifF rfl (by rw [zb_T b]; rfl) ?_
    refine E_il rfl L1 ?_
    by_cases c1 : 0 ≤ x.toInt
    · refine E_ifF rfl (decide_eq_false (fun q => by have := Int32.lt_iff_toInt_lt.mp q; omega)) ?_
      refine E_ci 1 rfl ci1 ?_
      refine E_goto rfl ?_
      have := go lv L0 L1
      rw [← zb_dec, zb_T ⟨(st_eq R).mp b, c1⟩] at this
      exact this
    · refine E_ifT rfl (decide_eq_true (Int32.lt_iff_toInt_lt.mpr (by omega))) ?_
      exact no (fun q => c1 q.2)
  · refine E_ifT rfl (by rw [zb_F b]; rfl) ?_
    exact no (fun q => b ((st_eq R).mpr q.1))
theorem sp_code9 (hh : HH h) (V : V9 h) (B : B9 h) : Sp (d + 9) 229 h [.ref 77, .int x] (fun h' r => ∃ s : Int32, r = some (.int s) ∧ CRel h x s) := by
  obtain ⟨l3, p8, n8⟩ := g9s hh
  refine Sp_of aiX9_code rfl rfl rfl ?_
  have L0 : pm_get (lv_args 0 [.ref 77, .int x]) 0 = some (.ref 77) := rfl
  have L1 : pm_get (lv_args 0 [.ref 77, .int x]) 1 = some (.int x) := rfl
  generalize lv_args 0 [.ref 77, .int x] = lv at L0 L1 ⊢
  refine E_al rfl L0 ?_
  refine E_ci 0 rfl ci0 ?_
  refine E_pf rfl hh rfl ?_
  have hg : HH (pt h 77 0 (nJ 0)) := HH_ptn hh rfl (by omega) (by omega) (by omega)
  have k : K9 h (pt h 77 0 (nJ 0)) := K9_77
  generalize pt h 77 0 (nJ 0) = g at hg k ⊢
  have mis : ¬ (0 < (gi h 83 0).toInt ∧ 0 ≤ x.toInt) → Ends (pm_at tX9_code) (pm_Rt pm_P (d + 8)) (16, lv, [], g, 0, 0) (fun h' r => ∃ s : Int32, r = some (.int s) ∧ CRel h x s) := fun q => by
    refine E_c rfl ?_
    exact E_rti rfl ⟨_, rfl, by unfold CRel; rw [if_neg (fun z => q z.1)]; unfold tqv; rw [if_neg q]⟩
  refine E_al rfl L0 ?_
  refine E_call rfl (Sp_le (by first | exact Nat.add_le_add_left (Nat.le_of_ble_eq_true rfl) _ | exact Nat.le_of_ble_eq_true rfl | omega) (sp_isStreet (d := d) hg)) (chk77 hg rfl rfl (by show 0 ≤ 8; decide)) (fun h1 r1 => ?_)
  rintro ⟨e1, f1⟩
  rw [e1, f1, k.2.2.2]
  by_cases c1 : 0 < (gi h 83 0).toInt
  · refine E_ifF rfl (by rw [zb_T c1]; rfl) ?_
    refine E_il rfl L1 ?_
    by_cases c2 : 0 ≤ x.toInt
    · refine E_ifT rfl (decide_eq_true (show (0 : Int32) ≤ x from Int32.le_iff_toInt_le.mpr c2)) ?_
      have c : 0 < (gi h 83 0).toInt ∧ 0 ≤ x.toInt := ⟨c1, c2⟩
      refine E_al rfl L0 ?_
      refine E_call rfl (Sp_le (by first | exact Nat.add_le_add_left (Nat.le_of_ble_eq_true rfl) _ | exact Nat.le_of_ble_eq_true rfl | omega) (sp_laysX (d := d) hg (V9_K k V))) (chk77 hg rfl rfl (by show 0 ≤ 8; decide)) (fun h2 r2 => ?_)
      rintro ⟨e2, hh2, f2, -, -, w2⟩
      rw [e2]
      have T := LY9_of k hh2 f2 w2
      have non : ¬ (LW9 h = true ∧ x.toInt.toNat + 1 < N9 h) → Ends (pm_at tX9_code) (pm_Rt pm_P (d + 8)) (40, lv, [], h2, 0, 0) (fun h' r => ∃ s : Int32, r = some (.int s) ∧ CRel h x s) := fun q => by
        refine E_c rfl ?_
        exact E_rti rfl ⟨_, rfl, by unfold CRel; rw [if_neg (fun z => q z.2)]; unfold tqv; rw [if_pos c]; split <;> rfl⟩
      refine E_al rfl L0 ?_
      refine E_call rfl (Sp_le (by first | exact Nat.add_le_add_left (Nat.le_of_ble_eq_true rfl) _ | exact Nat.le_of_ble_eq_true rfl | omega) (sp_isLawful9 (d := d) hh T)) (chk77 hh2 rfl rfl (by show 0 ≤ 8; decide)) (fun h3 r3 => ?_)
      rintro ⟨e3, f3⟩
      rw [e3, f3]
      by_cases lw : LW9 h = true
      · refine E_ifF rfl (by rw [zb_T lw]; rfl) ?_
        obtain ⟨a, wb, lq⟩ := LW_wb lw B
        have D := DT_T lw B
        obtain ⟨m, hm, rfl⟩ := nJ_of2 (n := 2147483647) c2 (ai_hi x)
        have em : (nJ m).toInt.toNat = m := by have := nJ_toInt (n := m) (by omega); omega
        rw [em] at non
        refine E_il rfl L1 ?_
        refine E_al rfl L0 ?_
        refine E_call rfl (Sp_le (by first | exact Nat.add_le_add_left (Nat.le_of_ble_eq_true rfl) _ | exact Nat.le_of_ble_eq_true rfl | omega) (sp_places (d := d) hh2)) (chk77 hh2 rfl rfl (by show 1 ≤ 8; decide)) (fun h4 r4 => ?_)
        rintro ⟨e4, f4, -⟩
        rw [e4, f4, T.2.1, ← a]
        refine E_ci 1 rfl ci1 ?_
        refine E_bin rfl (pI_of _) ?_
        by_cases b : m + 1 < N9 h
        · refine E_icT rfl (decide_eq_true ((pI_lt (by omega) (by omega)).mpr b)) ?_
          refine E_al rfl L0 ?_
          refine E_call rfl (Sp_le (by first | exact Nat.add_le_add_left (Nat.le_of_ble_eq_true rfl) _ | exact Nat.le_of_ble_eq_true rfl | omega) (sp_laysTreeX (d := d) hh2 n8 wb lq (by rw [a]; exact T.2.1) T.2.2.1 (fun c hc => by rw [gi_gn hh2 (q := (0, 8)) (bd_u rfl (by omega)) (by decide), T.2.2.2 c hc]))) (chk77 hh2 rfl rfl (by show 0 ≤ 8; decide)) (fun h5 r5 => ?_)
          rintro ⟨e5, hh5, f5, T5⟩
          rw [e5]
          have T5 : TRX 92 93 (N9 h) (oT h) (pT h) h5 := T5
          have u0 : gn h5 84 0 = N9 h := by rw [fr_gn f5 (rg_no rfl _), T.2.1, a]
          have eg : ∀ v, 1 ≤ v → v ≤ N9 h → gn h5 92 v = pT h v := fun v v1 vn => gn_of (T5.2 v v1 vn) (by have := (D v v1 vn).2; omega)
          refine E_al rfl L0 ?_
          refine E_call rfl (Sp_le (by first | exact Nat.add_le_add_left (Nat.le_of_ble_eq_true rfl) _ | exact Nat.le_of_ble_eq_true rfl | omega) (sp_laysCodeX (d := d) hh5 (by rw [u0]; omega) (fun v v1 vn => by
            rw [u0] at vn ⊢
            rw [hg_gn]
            exact ⟨dep_cg eg (fun u a b => (D u a b).2) 8 vn (dep_le (D v v1 vn).1 (by omega)), by rw [eg v v1 vn]; exact (D v v1 vn).2⟩))) (chk77 hh5 rfl rfl (by show 0 ≤ 8; decide)) (fun h6 r6 => ?_)
          rintro ⟨e6, hh6, f6, W6⟩
          rw [e6]
          rw [u0] at W6
          obtain ⟨w, w1, w2⟩ := W6 m (by omega)
          refine E_al rfl L0 ?_
          refine E_gr rfl hh6 (q := 95) rfl ?_
          refine E_il rfl L1 ?_
          refine E_ial rfl hh6 rfl (by omega) (by decide) w2 ?_
          exact E_rti rfl ⟨_, rfl, by unfold CRel; rw [em, if_pos ⟨c, lw, b⟩]; exact ⟨w, WRn_cg eg w1, rfl⟩⟩
        · refine E_icF rfl (decide_eq_false (fun q => b ((pI_lt (by omega) (by omega)).mp q))) ?_
          exact non (fun q => b q.2)
      · refine E_ifT rfl (by rw [zb_F lw]; rfl) ?_
        exact non (fun q => lw q.1)
    · refine E_ifF rfl (decide_eq_false (fun q => c2 (Int32.le_iff_toInt_le.mp q))) ?_
      exact mis (fun q => c2 q.2)
  · refine E_ifT rfl (by rw [zb_F c1]; rfl) ?_
    exact mis (fun q => c1 q.1)
end COD
noncomputable def half_code (h : pm_H) (r x : Int32) : Prop := QRE h ∧ CRel h x r
theorem g8_code {h : pm_H} {x : Int32} (I : IVQ h) : Sp 100 92 h [.ref 0, .int x] (fun h' s => IVh h' ∧ ∃ r : Int32, s = some (.int r) ∧ half_code h' r x) := by
  refine Sp_le (by first | exact Nat.add_le_add_left (Nat.le_of_ble_eq_true rfl) _ | exact Nat.le_of_ble_eq_true rfl | omega) (Sp_mono ?_ (Sp_and1 (top_all (as := [.ref 0, .int x]) q307 (by decide +kernel) I.1 ⟨rfl, aI _, trivial⟩) (sp_code8 (d := 0) I.1.1 I.2)))
  rintro h' s ⟨⟨s1, s2, -⟩, k, r, rfl, cr⟩
  exact ⟨s1, _, rfl, QRE_fr s2 rfl I.2, by rw [CRel_K k]; exact cr⟩
theorem g9_code {h : pm_H} {r x : Int32} (I : IVh h) (J : half_code h r x) : Sp 100 229 h [.ref 77, .int x] (fun h' s => IVQ h' ∧ s = some (.int r)) := by
  obtain ⟨J1, J2⟩ := J
  have tr := (top_TQ (as := [.ref 77, .int x]) (d := 30) rfl I (tp_code (d := 0) I.1 (I.2.2.1 0 (by omega))))
  refine Sp_mono ?_ (Sp_an (Sp_le (by first | exact Nat.add_le_add_left (Nat.le_of_ble_eq_true rfl) _ | exact Nat.le_of_ble_eq_true rfl | omega) tr) (Sp_le (by first | exact Nat.add_le_add_left (Nat.le_of_ble_eq_true rfl) _ | exact Nat.le_of_ble_eq_true rfl | omega) (sp_code9 (d := 0) I.1 (V9_of J1) (B9_of J1))))
  rintro h' s ⟨⟨s1, s2, -⟩, u, rfl, cr⟩
  exact ⟨⟨s1, QRE_fr s2 rfl J1⟩, by rw [CRel_u cr J2]⟩
end
section
/-! the law's own run (written by gen_t21.py) -/
noncomputable def RQ1 (_ : pm_H) (r : Option Value) : Prop := r = some (.int 1)
section ENDW
variable {look : Nat → Option pm_I} {call : pm_Call} {Q : pm_H → Option Value → Prop} {pc n i t : Nat} {lv : List (Nat × Value)} {st : List Value} {w : pm_H × Nat × Nat} {h : pm_H} {z : Nat × Nat}
theorem E_alr {x : Nat} (h1 : look pc = some (.inl (s_al i n))) (e : pm_get lv i = some (.retAddr x)) (k : Ends look call (n, lv, .retAddr x :: st, w) Q) : Ends look call (pc, lv, st, w) Q := E_st h1 (by simp only [s_al, e]) k
theorem E_sld {L j : Nat} {xs : Nat → Int32} (h1 : look pc = some (.inl (s_sld L xs n))) (hj : j < L) (hL : L ≤ 3072) (k : Ends look call (n, lv, .int (xs j) :: st, w) Q) : Ends look call (pc, lv, .int (nJ j) :: .retAddr 0 :: st, w) Q := by
  have h2 := nJ_toInt (n := j) (by omega)
  have h3 : pm_ix (nJ j) L = true := ai_ix (by omega) (by omega)
  have h4 : (nJ j).toNatClampNeg = j := by show (nJ j).toInt.toNat = j; omega
  refine E_st h1 ?_ k
  simp only [s_sld, h3, h4, cond_true]
theorem E_slen {L : Nat} (h1 : look pc = some (.inl (s_slen L n))) (hL : L ≤ 3072) (k : Ends look call (n, lv, .int (nJ L) :: st, w) Q) : Ends look call (pc, lv, .retAddr 0 :: st, w) Q := by
  have e : Int32.ofNat L = nJ L := by
    apply Int32.toInt_inj.mp
    rw [nJ_toInt (by omega), Int32.toInt_ofNat_of_lt (by omega)]
  refine E_st h1 ?_ k
  simp only [s_slen, e]
theorem E_lsh {op : Int64 → Int32 → Int64} {x : Int64} {y : Int32} (h1 : look pc = some (.inl (s_lsh op n))) (k : Ends look call (n, lv, .long (op x y) :: st, w) Q) : Ends look call (pc, lv, .int y :: .long x :: st, w) Q := E_st h1 rfl k
theorem E_pop2 {x : Value} (h1 : look pc = some (.inl (s_pop2 n))) (e : x.category = 2) (k : Ends look call (n, lv, st, w) Q) : Ends look call (pc, lv, x :: st, w) Q := E_st h1 (by simp only [s_pop2, e]; rfl) k
theorem E_tsw {lo hi : Int} {ts : List Nat} {dd : Nat} {x : Int32} (h1 : look pc = some (.inl (s_tsw lo hi ts dd))) (hz : (decide (x.toInt < lo) || decide (hi < x.toInt)) = false) (ht : ts[(x.toInt - lo).toNat]? = some t) (k : Ends look call (t, lv, st, w) Q) : Ends look call (pc, lv, .int x :: st, w) Q := E_st h1 (by simp only [s_tsw, hz, cond_false, ht]) k
theorem E_tswD {lo hi : Int} {ts : List Nat} {dd : Nat} {x : Int32} (h1 : look pc = some (.inl (s_tsw lo hi ts dd))) (hz : (decide (x.toInt < lo) || decide (hi < x.toInt)) = true) (k : Ends look call (dd, lv, st, w) Q) : Ends look call (pc, lv, .int x :: st, w) Q := E_st h1 (by simp only [s_tsw, hz, cond_true]) k
theorem chkR {a ci k : Nat} {fs : List AF} {as : List Value} (hh : HH h) (hc : hs0[a]? = some (.inr (.inr (.inr (ci, fs))))) (h9 : Nat.blt ci 100 = true) (hl : Nat.ble k st.length = true) (e : (st.take k).reverse = .ref a :: as) (hs : pm_sz (st.drop k) ≤ 8) : pm_chk k (some ci) 0 0 st (h, z) := by
  obtain ⟨x, hx, hg⟩ := hs_at hh hc
  match x, hx, hg with
  | .inr (cq, vs), hx, hg =>
    obtain ⟨rfl, -, -⟩ := hg
    refine ⟨Nat.le_of_ble_eq_true hl, fun q hq => ?_, hs, Nat.zero_le _, Nat.zero_le _⟩
    cases hq
    exact ⟨fun _ => ⟨a, vs, as, e, hx⟩, fun h7 => absurd (Nat.le_of_ble_eq_true h9) (Nat.not_lt.mpr h7)⟩
end ENDW
theorem nJ_inc6 (a : Nat) : nJ a + 6 = nJ (a + 6) := nJ_add a 6
set_option maxRecDepth 20000 in
theorem bl_0 {L : Nat} {xs : Nat → Int32} (hL : L ≤ 3072) {h : pm_H} {i : Nat} (hi : i + 6 ≤ L) (lv : List (Nat × Value)) (I : IVQ h) (L0 : pm_get lv 0 = some (.retAddr 0)) (L1 : pm_get lv 1 = some (.ref 0)) (L2 : pm_get lv 2 = some (.ref 77)) (L3 : pm_get lv 3 = some (.int (nJ i))) (K : ∀ h', IVQ h' → Ends (pm_tr (lb_all L xs)) (pm_Rt pm_P 100) (2392, lv, [], h', 599897, 7298671) RQ1) : Ends (pm_tr (lb_all L xs)) (pm_Rt pm_P 100) (376, lv, [], h, 599897, 7298671) RQ1 := by
  refine E_al rfl L1 ?_
  refine E_alr rfl L0 ?_
  refine E_il rfl L3 ?_
  refine E_ci 1 rfl ci1 ?_
  refine E_bin rfl (nJ_add _ _) ?_
  refine E_sld rfl (by omega) hL ?_
  refine E_alr rfl L0 ?_
  refine E_il rfl L3 ?_
  refine E_ci 2 rfl ci2 ?_
  refine E_bin rfl (nJ_add _ _) ?_
  refine E_sld rfl (by omega) hL ?_
  refine E_alr rfl L0 ?_
  refine E_il rfl L3 ?_
  refine E_ci 3 rfl ci3 ?_
  refine E_bin rfl (nJ_add _ _) ?_
  refine E_sld rfl (by omega) hL ?_
  refine E_alr rfl L0 ?_
  refine E_il rfl L3 ?_
  refine E_ci 4 rfl ci4 ?_
  refine E_bin rfl (nJ_add _ _) ?_
  refine E_sld rfl (by omega) hL ?_
  refine E_alr rfl L0 ?_
  refine E_il rfl L3 ?_
  refine E_ci 5 rfl ci5 ?_
  refine E_bin rfl (nJ_add _ _) ?_
  refine E_sld rfl (by omega) hL ?_
  refine E_call rfl (g8_feed I) (chkR (a := 0) I.1.1 rfl rfl rfl rfl (by show 0 ≤ 8; decide)) (fun h1 r1 => ?_)
  rintro ⟨I1, x1, f1, J1⟩
  rw [f1]
  show Ends _ _ (405, lv, [.int x1], h1, 599897, 7298671) _
  refine E_pop rfl rfl ?_
  refine E_al rfl L2 ?_
  refine E_alr rfl L0 ?_
  refine E_il rfl L3 ?_
  refine E_ci 1 rfl ci1 ?_
  refine E_bin rfl (nJ_add _ _) ?_
  refine E_sld rfl (by omega) hL ?_
  refine E_alr rfl L0 ?_
  refine E_il rfl L3 ?_
  refine E_ci 2 rfl ci2 ?_
  refine E_bin rfl (nJ_add _ _) ?_
  refine E_sld rfl (by omega) hL ?_
  refine E_alr rfl L0 ?_
  refine E_il rfl L3 ?_
  refine E_ci 3 rfl ci3 ?_
  refine E_bin rfl (nJ_add _ _) ?_
  refine E_sld rfl (by omega) hL ?_
  refine E_alr rfl L0 ?_
  refine E_il rfl L3 ?_
  refine E_ci 4 rfl ci4 ?_
  refine E_bin rfl (nJ_add _ _) ?_
  refine E_sld rfl (by omega) hL ?_
  refine E_alr rfl L0 ?_
  refine E_il rfl L3 ?_
  refine E_ci 5 rfl ci5 ?_
  refine E_bin rfl (nJ_add _ _) ?_
  refine E_sld rfl (by omega) hL ?_
  refine E_call rfl (g9_feed I1 J1) (chkR (a := 77) I1.1 rfl rfl rfl rfl (by show 0 ≤ 8; decide)) (fun h2 r2 => ?_)
  rintro ⟨I2, f2⟩
  rw [f2]
  show Ends _ _ (435, lv, [.int x1], h2, 599897, 7298671) _
  refine E_pop rfl rfl ?_
  refine E_goto rfl ?_
  exact K _ I2
set_option maxRecDepth 20000 in
theorem bl_1 {L : Nat} {xs : Nat → Int32} (hL : L ≤ 3072) {h : pm_H} {i : Nat} (hi : i + 6 ≤ L) (lv : List (Nat × Value)) (I : IVQ h) (L0 : pm_get lv 0 = some (.retAddr 0)) (L1 : pm_get lv 1 = some (.ref 0)) (L2 : pm_get lv 2 = some (.ref 77)) (L3 : pm_get lv 3 = some (.int (nJ i))) (K : ∀ h', IVQ h' → Ends (pm_tr (lb_all L xs)) (pm_Rt pm_P 100) (2392, lv, [], h', 599897, 7298671) RQ1) : Ends (pm_tr (lb_all L xs)) (pm_Rt pm_P 100) (439, lv, [], h, 599897, 7298671) RQ1 := by
  refine E_al rfl L1 ?_
  refine E_alr rfl L0 ?_
  refine E_il rfl L3 ?_
  refine E_ci 1 rfl ci1 ?_
  refine E_bin rfl (nJ_add _ _) ?_
  refine E_sld rfl (by omega) hL ?_
  refine E_call rfl (g8_end I) (chkR (a := 0) I.1.1 rfl rfl rfl rfl (by show 0 ≤ 8; decide)) (fun h1 r1 => ?_)
  rintro ⟨I1, x1, f1, J1⟩
  rw [f1]
  show Ends _ _ (448, lv, [.int x1], h1, 599897, 7298671) _
  refine E_pop rfl rfl ?_
  refine E_al rfl L2 ?_
  refine E_alr rfl L0 ?_
  refine E_il rfl L3 ?_
  refine E_ci 1 rfl ci1 ?_
  refine E_bin rfl (nJ_add _ _) ?_
  refine E_sld rfl (by omega) hL ?_
  refine E_call rfl (g9_end I1 J1) (chkR (a := 77) I1.1 rfl rfl rfl rfl (by show 0 ≤ 8; decide)) (fun h2 r2 => ?_)
  rintro ⟨I2, f2⟩
  rw [f2]
  show Ends _ _ (458, lv, [.int x1], h2, 599897, 7298671) _
  refine E_pop rfl rfl ?_
  refine E_goto rfl ?_
  exact K _ I2
set_option maxRecDepth 20000 in
theorem bl_2 {L : Nat} {xs : Nat → Int32} (hL : L ≤ 3072) {h : pm_H} {i : Nat} (hi : i + 6 ≤ L) (lv : List (Nat × Value)) (I : IVQ h) (L0 : pm_get lv 0 = some (.retAddr 0)) (L1 : pm_get lv 1 = some (.ref 0)) (L2 : pm_get lv 2 = some (.ref 77)) (L3 : pm_get lv 3 = some (.int (nJ i))) (K : ∀ h', IVQ h' → Ends (pm_tr (lb_all L xs)) (pm_Rt pm_P 100) (2392, lv, [], h', 599897, 7298671) RQ1) : Ends (pm_tr (lb_all L xs)) (pm_Rt pm_P 100) (462, lv, [], h, 599897, 7298671) RQ1 := by
  refine E_al rfl L1 ?_
  refine E_call rfl (g8_street I) (chkR (a := 0) I.1.1 rfl rfl rfl rfl (by show 0 ≤ 8; decide)) (fun h1 r1 => ?_)
  rintro ⟨I1, x1, f1, J1⟩
  rw [f1]
  show Ends _ _ (466, lv, [.int x1], h1, 599897, 7298671) _
  refine E_pop rfl rfl ?_
  refine E_al rfl L2 ?_
  refine E_call rfl (g9_street I1 J1) (chkR (a := 77) I1.1 rfl rfl rfl rfl (by show 0 ≤ 8; decide)) (fun h2 r2 => ?_)
  rintro ⟨I2, f2⟩
  rw [f2]
  show Ends _ _ (471, lv, [.int x1], h2, 599897, 7298671) _
  refine E_pop rfl rfl ?_
  refine E_goto rfl ?_
  exact K _ I2
set_option maxRecDepth 20000 in
theorem bl_3 {L : Nat} {xs : Nat → Int32} (hL : L ≤ 3072) {h : pm_H} {i : Nat} (hi : i + 6 ≤ L) (lv : List (Nat × Value)) (I : IVQ h) (L0 : pm_get lv 0 = some (.retAddr 0)) (L1 : pm_get lv 1 = some (.ref 0)) (L2 : pm_get lv 2 = some (.ref 77)) (L3 : pm_get lv 3 = some (.int (nJ i))) (K : ∀ h', IVQ h' → Ends (pm_tr (lb_all L xs)) (pm_Rt pm_P 100) (2392, lv, [], h', 599897, 7298671) RQ1) : Ends (pm_tr (lb_all L xs)) (pm_Rt pm_P 100) (475, lv, [], h, 599897, 7298671) RQ1 := by
  refine E_al rfl L1 ?_
  refine E_alr rfl L0 ?_
  refine E_il rfl L3 ?_
  refine E_ci 1 rfl ci1 ?_
  refine E_bin rfl (nJ_add _ _) ?_
  refine E_sld rfl (by omega) hL ?_
  refine E_call rfl (tQ_int (by decide +kernel) (by decide +kernel) I.2 (top_int (as := [.ref 0, .int (xs ((i + 1)))]) q107 (by decide +kernel) (by decide +kernel) I.1 ⟨rfl, aI _, trivial⟩)) (chkR (a := 0) I.1.1 rfl rfl rfl rfl (by show 0 ≤ 8; decide)) (fun h1 r1 => ?_)
  rintro ⟨I1, x1, f1⟩
  rw [f1]
  show Ends _ _ (484, lv, [.int x1], h1, 599897, 7298671) _
  refine E_pop rfl rfl ?_
  refine E_al rfl L2 ?_
  refine E_alr rfl L0 ?_
  refine E_il rfl L3 ?_
  refine E_ci 1 rfl ci1 ?_
  refine E_bin rfl (nJ_add _ _) ?_
  refine E_sld rfl (by omega) hL ?_
  refine E_call rfl (tQ_int (by decide +kernel) (by decide +kernel) I1.2 (top_int (as := [.ref 77, .int (xs ((i + 1)))]) q108 (by decide +kernel) (by decide +kernel) I1.1 ⟨rfl, aI _, trivial⟩)) (chkR (a := 77) I1.1.1 rfl rfl rfl rfl (by show 0 ≤ 8; decide)) (fun h2 r2 => ?_)
  rintro ⟨I2, x2, f2⟩
  rw [f2]
  show Ends _ _ (494, lv, [.int x2], h2, 599897, 7298671) _
  refine E_pop rfl rfl ?_
  refine E_goto rfl ?_
  exact K _ I2
set_option maxRecDepth 20000 in
theorem bl_4 {L : Nat} {xs : Nat → Int32} (hL : L ≤ 3072) {h : pm_H} {i : Nat} (hi : i + 6 ≤ L) (lv : List (Nat × Value)) (I : IVQ h) (L0 : pm_get lv 0 = some (.retAddr 0)) (L1 : pm_get lv 1 = some (.ref 0)) (L2 : pm_get lv 2 = some (.ref 77)) (L3 : pm_get lv 3 = some (.int (nJ i))) (K : ∀ h', IVQ h' → Ends (pm_tr (lb_all L xs)) (pm_Rt pm_P 100) (2392, lv, [], h', 599897, 7298671) RQ1) : Ends (pm_tr (lb_all L xs)) (pm_Rt pm_P 100) (498, lv, [], h, 599897, 7298671) RQ1 := by
  refine E_al rfl L1 ?_
  refine E_alr rfl L0 ?_
  refine E_il rfl L3 ?_
  refine E_ci 1 rfl ci1 ?_
  refine E_bin rfl (nJ_add _ _) ?_
  refine E_sld rfl (by omega) hL ?_
  refine E_alr rfl L0 ?_
  refine E_il rfl L3 ?_
  refine E_ci 2 rfl ci2 ?_
  refine E_bin rfl (nJ_add _ _) ?_
  refine E_sld rfl (by omega) hL ?_
  refine E_call rfl (tQ_int (by decide +kernel) (by decide +kernel) I.2 (top_int (as := [.ref 0, .int (xs ((i + 1))), .int (xs ((i + 2)))]) q111 (by decide +kernel) (by decide +kernel) I.1 ⟨rfl, aI _, aI _, trivial⟩)) (chkR (a := 0) I.1.1 rfl rfl rfl rfl (by show 0 ≤ 8; decide)) (fun h1 r1 => ?_)
  rintro ⟨I1, x1, f1⟩
  rw [f1]
  show Ends _ _ (512, lv, [.int x1], h1, 599897, 7298671) _
  refine E_pop rfl rfl ?_
  refine E_al rfl L2 ?_
  refine E_alr rfl L0 ?_
  refine E_il rfl L3 ?_
  refine E_ci 1 rfl ci1 ?_
  refine E_bin rfl (nJ_add _ _) ?_
  refine E_sld rfl (by omega) hL ?_
  refine E_alr rfl L0 ?_
  refine E_il rfl L3 ?_
  refine E_ci 2 rfl ci2 ?_
  refine E_bin rfl (nJ_add _ _) ?_
  refine E_sld rfl (by omega) hL ?_
  refine E_call rfl (tQ_int (by decide +kernel) (by decide +kernel) I1.2 (top_int (as := [.ref 77, .int (xs ((i + 1))), .int (xs ((i + 2)))]) q119 (by decide +kernel) (by decide +kernel) I1.1 ⟨rfl, aI _, aI _, trivial⟩)) (chkR (a := 77) I1.1.1 rfl rfl rfl rfl (by show 0 ≤ 8; decide)) (fun h2 r2 => ?_)
  rintro ⟨I2, x2, f2⟩
  rw [f2]
  show Ends _ _ (527, lv, [.int x2], h2, 599897, 7298671) _
  refine E_pop rfl rfl ?_
  refine E_goto rfl ?_
  exact K _ I2
set_option maxRecDepth 20000 in
theorem bl_5 {L : Nat} {xs : Nat → Int32} (hL : L ≤ 3072) {h : pm_H} {i : Nat} (hi : i + 6 ≤ L) (lv : List (Nat × Value)) (I : IVQ h) (L0 : pm_get lv 0 = some (.retAddr 0)) (L1 : pm_get lv 1 = some (.ref 0)) (L2 : pm_get lv 2 = some (.ref 77)) (L3 : pm_get lv 3 = some (.int (nJ i))) (K : ∀ h', IVQ h' → Ends (pm_tr (lb_all L xs)) (pm_Rt pm_P 100) (2392, lv, [], h', 599897, 7298671) RQ1) : Ends (pm_tr (lb_all L xs)) (pm_Rt pm_P 100) (531, lv, [], h, 599897, 7298671) RQ1 := by
  refine E_al rfl L1 ?_
  refine E_alr rfl L0 ?_
  refine E_il rfl L3 ?_
  refine E_ci 1 rfl ci1 ?_
  refine E_bin rfl (nJ_add _ _) ?_
  refine E_sld rfl (by omega) hL ?_
  refine E_call rfl (tQ_int (by decide +kernel) (by decide +kernel) I.2 (top_int (as := [.ref 0, .int (xs ((i + 1)))]) q138 (by decide +kernel) (by decide +kernel) I.1 ⟨rfl, aI _, trivial⟩)) (chkR (a := 0) I.1.1 rfl rfl rfl rfl (by show 0 ≤ 8; decide)) (fun h1 r1 => ?_)
  rintro ⟨I1, x1, f1⟩
  rw [f1]
  show Ends _ _ (540, lv, [.int x1], h1, 599897, 7298671) _
  refine E_pop rfl rfl ?_
  refine E_al rfl L2 ?_
  refine E_alr rfl L0 ?_
  refine E_il rfl L3 ?_
  refine E_ci 1 rfl ci1 ?_
  refine E_bin rfl (nJ_add _ _) ?_
  refine E_sld rfl (by omega) hL ?_
  refine E_call rfl (tQ_int (by decide +kernel) (by decide +kernel) I1.2 (top_int (as := [.ref 77, .int (xs ((i + 1)))]) q151 (by decide +kernel) (by decide +kernel) I1.1 ⟨rfl, aI _, trivial⟩)) (chkR (a := 77) I1.1.1 rfl rfl rfl rfl (by show 0 ≤ 8; decide)) (fun h2 r2 => ?_)
  rintro ⟨I2, x2, f2⟩
  rw [f2]
  show Ends _ _ (550, lv, [.int x2], h2, 599897, 7298671) _
  refine E_pop rfl rfl ?_
  refine E_goto rfl ?_
  exact K _ I2
set_option maxRecDepth 20000 in
theorem bl_6 {L : Nat} {xs : Nat → Int32} (hL : L ≤ 3072) {h : pm_H} {i : Nat} (hi : i + 6 ≤ L) (lv : List (Nat × Value)) (I : IVQ h) (L0 : pm_get lv 0 = some (.retAddr 0)) (L1 : pm_get lv 1 = some (.ref 0)) (L2 : pm_get lv 2 = some (.ref 77)) (L3 : pm_get lv 3 = some (.int (nJ i))) (K : ∀ h', IVQ h' → Ends (pm_tr (lb_all L xs)) (pm_Rt pm_P 100) (2392, lv, [], h', 599897, 7298671) RQ1) : Ends (pm_tr (lb_all L xs)) (pm_Rt pm_P 100) (554, lv, [], h, 599897, 7298671) RQ1 := by
  refine E_al rfl L1 ?_
  refine E_alr rfl L0 ?_
  refine E_il rfl L3 ?_
  refine E_ci 1 rfl ci1 ?_
  refine E_bin rfl (nJ_add _ _) ?_
  refine E_sld rfl (by omega) hL ?_
  refine E_call rfl (tQ_int (by decide +kernel) (by decide +kernel) I.2 (top_int (as := [.ref 0, .int (xs ((i + 1)))]) q154 (by decide +kernel) (by decide +kernel) I.1 ⟨rfl, aI _, trivial⟩)) (chkR (a := 0) I.1.1 rfl rfl rfl rfl (by show 0 ≤ 8; decide)) (fun h1 r1 => ?_)
  rintro ⟨I1, x1, f1⟩
  rw [f1]
  show Ends _ _ (563, lv, [.int x1], h1, 599897, 7298671) _
  refine E_pop rfl rfl ?_
  refine E_al rfl L2 ?_
  refine E_alr rfl L0 ?_
  refine E_il rfl L3 ?_
  refine E_ci 1 rfl ci1 ?_
  refine E_bin rfl (nJ_add _ _) ?_
  refine E_sld rfl (by omega) hL ?_
  refine E_call rfl (tQ_int (by decide +kernel) (by decide +kernel) I1.2 (top_int (as := [.ref 77, .int (xs ((i + 1)))]) q157 (by decide +kernel) (by decide +kernel) I1.1 ⟨rfl, aI _, trivial⟩)) (chkR (a := 77) I1.1.1 rfl rfl rfl rfl (by show 0 ≤ 8; decide)) (fun h2 r2 => ?_)
  rintro ⟨I2, x2, f2⟩
  rw [f2]
  show Ends _ _ (573, lv, [.int x2], h2, 599897, 7298671) _
  refine E_pop rfl rfl ?_
  refine E_goto rfl ?_
  exact K _ I2
set_option maxRecDepth 20000 in
theorem bl_7 {L : Nat} {xs : Nat → Int32} (hL : L ≤ 3072) {h : pm_H} {i : Nat} (hi : i + 6 ≤ L) (lv : List (Nat × Value)) (I : IVQ h) (L0 : pm_get lv 0 = some (.retAddr 0)) (L1 : pm_get lv 1 = some (.ref 0)) (L2 : pm_get lv 2 = some (.ref 77)) (L3 : pm_get lv 3 = some (.int (nJ i))) (K : ∀ h', IVQ h' → Ends (pm_tr (lb_all L xs)) (pm_Rt pm_P 100) (2392, lv, [], h', 599897, 7298671) RQ1) : Ends (pm_tr (lb_all L xs)) (pm_Rt pm_P 100) (577, lv, [], h, 599897, 7298671) RQ1 := by
  refine E_al rfl L1 ?_
  refine E_call rfl (tQ_int (by decide +kernel) (by decide +kernel) I.2 (top_int (as := [.ref 0]) q159 (by decide +kernel) (by decide +kernel) I.1 ⟨rfl, trivial⟩)) (chkR (a := 0) I.1.1 rfl rfl rfl rfl (by show 0 ≤ 8; decide)) (fun h1 r1 => ?_)
  rintro ⟨I1, x1, f1⟩
  rw [f1]
  show Ends _ _ (581, lv, [.int x1], h1, 599897, 7298671) _
  refine E_pop rfl rfl ?_
  refine E_al rfl L2 ?_
  refine E_call rfl (tQ_int (by decide +kernel) (by decide +kernel) I1.2 (top_int (as := [.ref 77]) q161 (by decide +kernel) (by decide +kernel) I1.1 ⟨rfl, trivial⟩)) (chkR (a := 77) I1.1.1 rfl rfl rfl rfl (by show 0 ≤ 8; decide)) (fun h2 r2 => ?_)
  rintro ⟨I2, x2, f2⟩
  rw [f2]
  show Ends _ _ (586, lv, [.int x2], h2, 599897, 7298671) _
  refine E_pop rfl rfl ?_
  refine E_goto rfl ?_
  exact K _ I2
set_option maxRecDepth 20000 in
theorem bl_8 {L : Nat} {xs : Nat → Int32} (hL : L ≤ 3072) {h : pm_H} {i : Nat} (hi : i + 6 ≤ L) (lv : List (Nat × Value)) (I : IVQ h) (L0 : pm_get lv 0 = some (.retAddr 0)) (L1 : pm_get lv 1 = some (.ref 0)) (L2 : pm_get lv 2 = some (.ref 77)) (L3 : pm_get lv 3 = some (.int (nJ i))) (K : ∀ h', IVQ h' → Ends (pm_tr (lb_all L xs)) (pm_Rt pm_P 100) (2392, lv, [], h', 599897, 7298671) RQ1) : Ends (pm_tr (lb_all L xs)) (pm_Rt pm_P 100) (590, lv, [], h, 599897, 7298671) RQ1 := by
  refine E_al rfl L1 ?_
  refine E_call rfl (tQ_int (by decide +kernel) (by decide +kernel) I.2 (top_int (as := [.ref 0]) q162 (by decide +kernel) (by decide +kernel) I.1 ⟨rfl, trivial⟩)) (chkR (a := 0) I.1.1 rfl rfl rfl rfl (by show 0 ≤ 8; decide)) (fun h1 r1 => ?_)
  rintro ⟨I1, x1, f1⟩
  rw [f1]
  show Ends _ _ (594, lv, [.int x1], h1, 599897, 7298671) _
  refine E_pop rfl rfl ?_
  refine E_al rfl L2 ?_
  refine E_call rfl (tQ_int (by decide +kernel) (by decide +kernel) I1.2 (top_int (as := [.ref 77]) q163 (by decide +kernel) (by decide +kernel) I1.1 ⟨rfl, trivial⟩)) (chkR (a := 77) I1.1.1 rfl rfl rfl rfl (by show 0 ≤ 8; decide)) (fun h2 r2 => ?_)
  rintro ⟨I2, x2, f2⟩
  rw [f2]
  show Ends _ _ (599, lv, [.int x2], h2, 599897, 7298671) _
  refine E_pop rfl rfl ?_
  refine E_goto rfl ?_
  exact K _ I2
set_option maxRecDepth 20000 in
theorem bl_9 {L : Nat} {xs : Nat → Int32} (hL : L ≤ 3072) {h : pm_H} {i : Nat} (hi : i + 6 ≤ L) (lv : List (Nat × Value)) (I : IVQ h) (L0 : pm_get lv 0 = some (.retAddr 0)) (L1 : pm_get lv 1 = some (.ref 0)) (L2 : pm_get lv 2 = some (.ref 77)) (L3 : pm_get lv 3 = some (.int (nJ i))) (K : ∀ h', IVQ h' → Ends (pm_tr (lb_all L xs)) (pm_Rt pm_P 100) (2392, lv, [], h', 599897, 7298671) RQ1) : Ends (pm_tr (lb_all L xs)) (pm_Rt pm_P 100) (603, lv, [], h, 599897, 7298671) RQ1 := by
  refine E_al rfl L1 ?_
  refine E_alr rfl L0 ?_
  refine E_il rfl L3 ?_
  refine E_ci 1 rfl ci1 ?_
  refine E_bin rfl (nJ_add _ _) ?_
  refine E_sld rfl (by omega) hL ?_
  refine E_call rfl (tQ_int (by decide +kernel) (by decide +kernel) I.2 (top_int (as := [.ref 0, .int (xs ((i + 1)))]) q165 (by decide +kernel) (by decide +kernel) I.1 ⟨rfl, aI _, trivial⟩)) (chkR (a := 0) I.1.1 rfl rfl rfl rfl (by show 0 ≤ 8; decide)) (fun h1 r1 => ?_)
  rintro ⟨I1, x1, f1⟩
  rw [f1]
  show Ends _ _ (612, lv, [.int x1], h1, 599897, 7298671) _
  refine E_pop rfl rfl ?_
  refine E_al rfl L2 ?_
  refine E_alr rfl L0 ?_
  refine E_il rfl L3 ?_
  refine E_ci 1 rfl ci1 ?_
  refine E_bin rfl (nJ_add _ _) ?_
  refine E_sld rfl (by omega) hL ?_
  refine E_call rfl (tQ_int (by decide +kernel) (by decide +kernel) I1.2 (top_int (as := [.ref 77, .int (xs ((i + 1)))]) q168 (by decide +kernel) (by decide +kernel) I1.1 ⟨rfl, aI _, trivial⟩)) (chkR (a := 77) I1.1.1 rfl rfl rfl rfl (by show 0 ≤ 8; decide)) (fun h2 r2 => ?_)
  rintro ⟨I2, x2, f2⟩
  rw [f2]
  show Ends _ _ (622, lv, [.int x2], h2, 599897, 7298671) _
  refine E_pop rfl rfl ?_
  refine E_goto rfl ?_
  exact K _ I2
set_option maxRecDepth 20000 in
theorem bl_10 {L : Nat} {xs : Nat → Int32} (hL : L ≤ 3072) {h : pm_H} {i : Nat} (hi : i + 6 ≤ L) (lv : List (Nat × Value)) (I : IVQ h) (L0 : pm_get lv 0 = some (.retAddr 0)) (L1 : pm_get lv 1 = some (.ref 0)) (L2 : pm_get lv 2 = some (.ref 77)) (L3 : pm_get lv 3 = some (.int (nJ i))) (K : ∀ h', IVQ h' → Ends (pm_tr (lb_all L xs)) (pm_Rt pm_P 100) (2392, lv, [], h', 599897, 7298671) RQ1) : Ends (pm_tr (lb_all L xs)) (pm_Rt pm_P 100) (626, lv, [], h, 599897, 7298671) RQ1 := by
  refine E_al rfl L1 ?_
  refine E_call rfl (tQ_int (by decide +kernel) (by decide +kernel) I.2 (top_int (as := [.ref 0]) q169 (by decide +kernel) (by decide +kernel) I.1 ⟨rfl, trivial⟩)) (chkR (a := 0) I.1.1 rfl rfl rfl rfl (by show 0 ≤ 8; decide)) (fun h1 r1 => ?_)
  rintro ⟨I1, x1, f1⟩
  rw [f1]
  show Ends _ _ (630, lv, [.int x1], h1, 599897, 7298671) _
  refine E_pop rfl rfl ?_
  refine E_al rfl L2 ?_
  refine E_call rfl (tQ_int (by decide +kernel) (by decide +kernel) I1.2 (top_int (as := [.ref 77]) q170 (by decide +kernel) (by decide +kernel) I1.1 ⟨rfl, trivial⟩)) (chkR (a := 77) I1.1.1 rfl rfl rfl rfl (by show 0 ≤ 8; decide)) (fun h2 r2 => ?_)
  rintro ⟨I2, x2, f2⟩
  rw [f2]
  show Ends _ _ (635, lv, [.int x2], h2, 599897, 7298671) _
  refine E_pop rfl rfl ?_
  refine E_goto rfl ?_
  exact K _ I2
set_option maxRecDepth 20000 in
theorem bl_11 {L : Nat} {xs : Nat → Int32} (hL : L ≤ 3072) {h : pm_H} {i : Nat} (hi : i + 6 ≤ L) (lv : List (Nat × Value)) (I : IVQ h) (L0 : pm_get lv 0 = some (.retAddr 0)) (L1 : pm_get lv 1 = some (.ref 0)) (L2 : pm_get lv 2 = some (.ref 77)) (L3 : pm_get lv 3 = some (.int (nJ i))) (K : ∀ h', IVQ h' → Ends (pm_tr (lb_all L xs)) (pm_Rt pm_P 100) (2392, lv, [], h', 599897, 7298671) RQ1) : Ends (pm_tr (lb_all L xs)) (pm_Rt pm_P 100) (639, lv, [], h, 599897, 7298671) RQ1 := by
  refine E_al rfl L1 ?_
  refine E_call rfl (tQ_int (by decide +kernel) (by decide +kernel) I.2 (top_int (as := [.ref 0]) q171 (by decide +kernel) (by decide +kernel) I.1 ⟨rfl, trivial⟩)) (chkR (a := 0) I.1.1 rfl rfl rfl rfl (by show 0 ≤ 8; decide)) (fun h1 r1 => ?_)
  rintro ⟨I1, x1, f1⟩
  rw [f1]
  show Ends _ _ (643, lv, [.int x1], h1, 599897, 7298671) _
  refine E_pop rfl rfl ?_
  refine E_al rfl L2 ?_
  refine E_call rfl (tQ_int (by decide +kernel) (by decide +kernel) I1.2 (top_int (as := [.ref 77]) q173 (by decide +kernel) (by decide +kernel) I1.1 ⟨rfl, trivial⟩)) (chkR (a := 77) I1.1.1 rfl rfl rfl rfl (by show 0 ≤ 8; decide)) (fun h2 r2 => ?_)
  rintro ⟨I2, x2, f2⟩
  rw [f2]
  show Ends _ _ (648, lv, [.int x2], h2, 599897, 7298671) _
  refine E_pop rfl rfl ?_
  refine E_goto rfl ?_
  exact K _ I2
set_option maxRecDepth 20000 in
theorem bl_12 {L : Nat} {xs : Nat → Int32} (hL : L ≤ 3072) {h : pm_H} {i : Nat} (hi : i + 6 ≤ L) (lv : List (Nat × Value)) (I : IVQ h) (L0 : pm_get lv 0 = some (.retAddr 0)) (L1 : pm_get lv 1 = some (.ref 0)) (L2 : pm_get lv 2 = some (.ref 77)) (L3 : pm_get lv 3 = some (.int (nJ i))) (K : ∀ h', IVQ h' → Ends (pm_tr (lb_all L xs)) (pm_Rt pm_P 100) (2392, lv, [], h', 599897, 7298671) RQ1) : Ends (pm_tr (lb_all L xs)) (pm_Rt pm_P 100) (652, lv, [], h, 599897, 7298671) RQ1 := by
  refine E_al rfl L1 ?_
  refine E_call rfl (tQ_int (by decide +kernel) (by decide +kernel) I.2 (top_int (as := [.ref 0]) q174 (by decide +kernel) (by decide +kernel) I.1 ⟨rfl, trivial⟩)) (chkR (a := 0) I.1.1 rfl rfl rfl rfl (by show 0 ≤ 8; decide)) (fun h1 r1 => ?_)
  rintro ⟨I1, x1, f1⟩
  rw [f1]
  show Ends _ _ (656, lv, [.int x1], h1, 599897, 7298671) _
  refine E_pop rfl rfl ?_
  refine E_al rfl L2 ?_
  refine E_call rfl (tQ_int (by decide +kernel) (by decide +kernel) I1.2 (top_int (as := [.ref 77]) q175 (by decide +kernel) (by decide +kernel) I1.1 ⟨rfl, trivial⟩)) (chkR (a := 77) I1.1.1 rfl rfl rfl rfl (by show 0 ≤ 8; decide)) (fun h2 r2 => ?_)
  rintro ⟨I2, x2, f2⟩
  rw [f2]
  show Ends _ _ (661, lv, [.int x2], h2, 599897, 7298671) _
  refine E_pop rfl rfl ?_
  refine E_goto rfl ?_
  exact K _ I2
set_option maxRecDepth 20000 in
theorem bl_13 {L : Nat} {xs : Nat → Int32} (hL : L ≤ 3072) {h : pm_H} {i : Nat} (hi : i + 6 ≤ L) (lv : List (Nat × Value)) (I : IVQ h) (L0 : pm_get lv 0 = some (.retAddr 0)) (L1 : pm_get lv 1 = some (.ref 0)) (L2 : pm_get lv 2 = some (.ref 77)) (L3 : pm_get lv 3 = some (.int (nJ i))) (K : ∀ h', IVQ h' → Ends (pm_tr (lb_all L xs)) (pm_Rt pm_P 100) (2392, lv, [], h', 599897, 7298671) RQ1) : Ends (pm_tr (lb_all L xs)) (pm_Rt pm_P 100) (665, lv, [], h, 599897, 7298671) RQ1 := by
  refine E_al rfl L1 ?_
  refine E_call rfl (tQ_int (by decide +kernel) (by decide +kernel) I.2 (top_int (as := [.ref 0]) q177 (by decide +kernel) (by decide +kernel) I.1 ⟨rfl, trivial⟩)) (chkR (a := 0) I.1.1 rfl rfl rfl rfl (by show 0 ≤ 8; decide)) (fun h1 r1 => ?_)
  rintro ⟨I1, x1, f1⟩
  rw [f1]
  show Ends _ _ (669, lv, [.int x1], h1, 599897, 7298671) _
  refine E_pop rfl rfl ?_
  refine E_al rfl L2 ?_
  refine E_call rfl (tQ_int (by decide +kernel) (by decide +kernel) I1.2 (top_int (as := [.ref 77]) q178 (by decide +kernel) (by decide +kernel) I1.1 ⟨rfl, trivial⟩)) (chkR (a := 77) I1.1.1 rfl rfl rfl rfl (by show 0 ≤ 8; decide)) (fun h2 r2 => ?_)
  rintro ⟨I2, x2, f2⟩
  rw [f2]
  show Ends _ _ (674, lv, [.int x2], h2, 599897, 7298671) _
  refine E_pop rfl rfl ?_
  refine E_goto rfl ?_
  exact K _ I2
set_option maxRecDepth 20000 in
theorem bl_14 {L : Nat} {xs : Nat → Int32} (hL : L ≤ 3072) {h : pm_H} {i : Nat} (hi : i + 6 ≤ L) (lv : List (Nat × Value)) (I : IVQ h) (L0 : pm_get lv 0 = some (.retAddr 0)) (L1 : pm_get lv 1 = some (.ref 0)) (L2 : pm_get lv 2 = some (.ref 77)) (L3 : pm_get lv 3 = some (.int (nJ i))) (K : ∀ h', IVQ h' → Ends (pm_tr (lb_all L xs)) (pm_Rt pm_P 100) (2392, lv, [], h', 599897, 7298671) RQ1) : Ends (pm_tr (lb_all L xs)) (pm_Rt pm_P 100) (678, lv, [], h, 599897, 7298671) RQ1 := by
  refine E_al rfl L1 ?_
  refine E_alr rfl L0 ?_
  refine E_il rfl L3 ?_
  refine E_ci 1 rfl ci1 ?_
  refine E_bin rfl (nJ_add _ _) ?_
  refine E_sld rfl (by omega) hL ?_
  refine E_call rfl (tQ_int (by decide +kernel) (by decide +kernel) I.2 (top_int (as := [.ref 0, .int (xs ((i + 1)))]) q180 (by decide +kernel) (by decide +kernel) I.1 ⟨rfl, aI _, trivial⟩)) (chkR (a := 0) I.1.1 rfl rfl rfl rfl (by show 0 ≤ 8; decide)) (fun h1 r1 => ?_)
  rintro ⟨I1, x1, f1⟩
  rw [f1]
  show Ends _ _ (687, lv, [.int x1], h1, 599897, 7298671) _
  refine E_pop rfl rfl ?_
  refine E_al rfl L2 ?_
  refine E_alr rfl L0 ?_
  refine E_il rfl L3 ?_
  refine E_ci 1 rfl ci1 ?_
  refine E_bin rfl (nJ_add _ _) ?_
  refine E_sld rfl (by omega) hL ?_
  refine E_call rfl (tQ_int (by decide +kernel) (by decide +kernel) I1.2 (top_int (as := [.ref 77, .int (xs ((i + 1)))]) q245 (by decide +kernel) (by decide +kernel) I1.1 ⟨rfl, aI _, trivial⟩)) (chkR (a := 77) I1.1.1 rfl rfl rfl rfl (by show 0 ≤ 8; decide)) (fun h2 r2 => ?_)
  rintro ⟨I2, x2, f2⟩
  rw [f2]
  show Ends _ _ (697, lv, [.int x2], h2, 599897, 7298671) _
  refine E_pop rfl rfl ?_
  refine E_goto rfl ?_
  exact K _ I2
set_option maxRecDepth 20000 in
theorem bl_15 {L : Nat} {xs : Nat → Int32} (hL : L ≤ 3072) {h : pm_H} {i : Nat} (hi : i + 6 ≤ L) (lv : List (Nat × Value)) (I : IVQ h) (L0 : pm_get lv 0 = some (.retAddr 0)) (L1 : pm_get lv 1 = some (.ref 0)) (L2 : pm_get lv 2 = some (.ref 77)) (L3 : pm_get lv 3 = some (.int (nJ i))) (K : ∀ h', IVQ h' → Ends (pm_tr (lb_all L xs)) (pm_Rt pm_P 100) (2392, lv, [], h', 599897, 7298671) RQ1) : Ends (pm_tr (lb_all L xs)) (pm_Rt pm_P 100) (701, lv, [], h, 599897, 7298671) RQ1 := by
  refine E_al rfl L1 ?_
  refine E_call rfl (tQ_int (by decide +kernel) (by decide +kernel) I.2 (top_int (as := [.ref 0]) q247 (by decide +kernel) (by decide +kernel) I.1 ⟨rfl, trivial⟩)) (chkR (a := 0) I.1.1 rfl rfl rfl rfl (by show 0 ≤ 8; decide)) (fun h1 r1 => ?_)
  rintro ⟨I1, x1, f1⟩
  rw [f1]
  show Ends _ _ (705, lv, [.int x1], h1, 599897, 7298671) _
  refine E_pop rfl rfl ?_
  refine E_al rfl L2 ?_
  refine E_call rfl (tQ_int (by decide +kernel) (by decide +kernel) I1.2 (top_int (as := [.ref 77]) q250 (by decide +kernel) (by decide +kernel) I1.1 ⟨rfl, trivial⟩)) (chkR (a := 77) I1.1.1 rfl rfl rfl rfl (by show 0 ≤ 8; decide)) (fun h2 r2 => ?_)
  rintro ⟨I2, x2, f2⟩
  rw [f2]
  show Ends _ _ (710, lv, [.int x2], h2, 599897, 7298671) _
  refine E_pop rfl rfl ?_
  refine E_goto rfl ?_
  exact K _ I2
set_option maxRecDepth 20000 in
theorem bl_16 {L : Nat} {xs : Nat → Int32} (hL : L ≤ 3072) {h : pm_H} {i : Nat} (hi : i + 6 ≤ L) (lv : List (Nat × Value)) (I : IVQ h) (L0 : pm_get lv 0 = some (.retAddr 0)) (L1 : pm_get lv 1 = some (.ref 0)) (L2 : pm_get lv 2 = some (.ref 77)) (L3 : pm_get lv 3 = some (.int (nJ i))) (K : ∀ h', IVQ h' → Ends (pm_tr (lb_all L xs)) (pm_Rt pm_P 100) (2392, lv, [], h', 599897, 7298671) RQ1) : Ends (pm_tr (lb_all L xs)) (pm_Rt pm_P 100) (714, lv, [], h, 599897, 7298671) RQ1 := by
  refine E_al rfl L1 ?_
  refine E_call rfl (tQ_int (by decide +kernel) (by decide +kernel) I.2 (top_int (as := [.ref 0]) q252 (by decide +kernel) (by decide +kernel) I.1 ⟨rfl, trivial⟩)) (chkR (a := 0) I.1.1 rfl rfl rfl rfl (by show 0 ≤ 8; decide)) (fun h1 r1 => ?_)
  rintro ⟨I1, x1, f1⟩
  rw [f1]
  show Ends _ _ (718, lv, [.int x1], h1, 599897, 7298671) _
  refine E_pop rfl rfl ?_
  refine E_al rfl L2 ?_
  refine E_call rfl (tQ_int (by decide +kernel) (by decide +kernel) I1.2 (top_int (as := [.ref 77]) q254 (by decide +kernel) (by decide +kernel) I1.1 ⟨rfl, trivial⟩)) (chkR (a := 77) I1.1.1 rfl rfl rfl rfl (by show 0 ≤ 8; decide)) (fun h2 r2 => ?_)
  rintro ⟨I2, x2, f2⟩
  rw [f2]
  show Ends _ _ (723, lv, [.int x2], h2, 599897, 7298671) _
  refine E_pop rfl rfl ?_
  refine E_goto rfl ?_
  exact K _ I2
set_option maxRecDepth 20000 in
theorem bl_17 {L : Nat} {xs : Nat → Int32} (hL : L ≤ 3072) {h : pm_H} {i : Nat} (hi : i + 6 ≤ L) (lv : List (Nat × Value)) (I : IVQ h) (L0 : pm_get lv 0 = some (.retAddr 0)) (L1 : pm_get lv 1 = some (.ref 0)) (L2 : pm_get lv 2 = some (.ref 77)) (L3 : pm_get lv 3 = some (.int (nJ i))) (K : ∀ h', IVQ h' → Ends (pm_tr (lb_all L xs)) (pm_Rt pm_P 100) (2392, lv, [], h', 599897, 7298671) RQ1) : Ends (pm_tr (lb_all L xs)) (pm_Rt pm_P 100) (727, lv, [], h, 599897, 7298671) RQ1 := by
  refine E_al rfl L1 ?_
  refine E_call rfl (tQ_int (by decide +kernel) (by decide +kernel) I.2 (top_int (as := [.ref 0]) q257 (by decide +kernel) (by decide +kernel) I.1 ⟨rfl, trivial⟩)) (chkR (a := 0) I.1.1 rfl rfl rfl rfl (by show 0 ≤ 8; decide)) (fun h1 r1 => ?_)
  rintro ⟨I1, x1, f1⟩
  rw [f1]
  show Ends _ _ (731, lv, [.int x1], h1, 599897, 7298671) _
  refine E_pop rfl rfl ?_
  refine E_al rfl L2 ?_
  refine E_call rfl (tQ_int (by decide +kernel) (by decide +kernel) I1.2 (top_int (as := [.ref 77]) q258 (by decide +kernel) (by decide +kernel) I1.1 ⟨rfl, trivial⟩)) (chkR (a := 77) I1.1.1 rfl rfl rfl rfl (by show 0 ≤ 8; decide)) (fun h2 r2 => ?_)
  rintro ⟨I2, x2, f2⟩
  rw [f2]
  show Ends _ _ (736, lv, [.int x2], h2, 599897, 7298671) _
  refine E_pop rfl rfl ?_
  refine E_goto rfl ?_
  exact K _ I2
set_option maxRecDepth 20000 in
theorem bl_18 {L : Nat} {xs : Nat → Int32} (hL : L ≤ 3072) {h : pm_H} {i : Nat} (hi : i + 6 ≤ L) (lv : List (Nat × Value)) (I : IVQ h) (L0 : pm_get lv 0 = some (.retAddr 0)) (L1 : pm_get lv 1 = some (.ref 0)) (L2 : pm_get lv 2 = some (.ref 77)) (L3 : pm_get lv 3 = some (.int (nJ i))) (K : ∀ h', IVQ h' → Ends (pm_tr (lb_all L xs)) (pm_Rt pm_P 100) (2392, lv, [], h', 599897, 7298671) RQ1) : Ends (pm_tr (lb_all L xs)) (pm_Rt pm_P 100) (740, lv, [], h, 599897, 7298671) RQ1 := by
  refine E_al rfl L1 ?_
  refine E_call rfl (tQ_int (by decide +kernel) (by decide +kernel) I.2 (top_int (as := [.ref 0]) q264 (by decide +kernel) (by decide +kernel) I.1 ⟨rfl, trivial⟩)) (chkR (a := 0) I.1.1 rfl rfl rfl rfl (by show 0 ≤ 8; decide)) (fun h1 r1 => ?_)
  rintro ⟨I1, x1, f1⟩
  rw [f1]
  show Ends _ _ (744, lv, [.int x1], h1, 599897, 7298671) _
  refine E_pop rfl rfl ?_
  refine E_al rfl L2 ?_
  refine E_call rfl (tQ_int (by decide +kernel) (by decide +kernel) I1.2 (top_int (as := [.ref 77]) q267 (by decide +kernel) (by decide +kernel) I1.1 ⟨rfl, trivial⟩)) (chkR (a := 77) I1.1.1 rfl rfl rfl rfl (by show 0 ≤ 8; decide)) (fun h2 r2 => ?_)
  rintro ⟨I2, x2, f2⟩
  rw [f2]
  show Ends _ _ (749, lv, [.int x2], h2, 599897, 7298671) _
  refine E_pop rfl rfl ?_
  refine E_goto rfl ?_
  exact K _ I2
set_option maxRecDepth 20000 in
theorem bl_19 {L : Nat} {xs : Nat → Int32} (hL : L ≤ 3072) {h : pm_H} {i : Nat} (hi : i + 6 ≤ L) (lv : List (Nat × Value)) (I : IVQ h) (L0 : pm_get lv 0 = some (.retAddr 0)) (L1 : pm_get lv 1 = some (.ref 0)) (L2 : pm_get lv 2 = some (.ref 77)) (L3 : pm_get lv 3 = some (.int (nJ i))) (K : ∀ h', IVQ h' → Ends (pm_tr (lb_all L xs)) (pm_Rt pm_P 100) (2392, lv, [], h', 599897, 7298671) RQ1) : Ends (pm_tr (lb_all L xs)) (pm_Rt pm_P 100) (753, lv, [], h, 599897, 7298671) RQ1 := by
  refine E_al rfl L1 ?_
  refine E_alr rfl L0 ?_
  refine E_il rfl L3 ?_
  refine E_ci 1 rfl ci1 ?_
  refine E_bin rfl (nJ_add _ _) ?_
  refine E_sld rfl (by omega) hL ?_
  refine E_call rfl (tQ_int (by decide +kernel) (by decide +kernel) I.2 (top_int (as := [.ref 0, .int (xs ((i + 1)))]) q276 (by decide +kernel) (by decide +kernel) I.1 ⟨rfl, aI _, trivial⟩)) (chkR (a := 0) I.1.1 rfl rfl rfl rfl (by show 0 ≤ 8; decide)) (fun h1 r1 => ?_)
  rintro ⟨I1, x1, f1⟩
  rw [f1]
  show Ends _ _ (762, lv, [.int x1], h1, 599897, 7298671) _
  refine E_pop rfl rfl ?_
  refine E_al rfl L2 ?_
  refine E_alr rfl L0 ?_
  refine E_il rfl L3 ?_
  refine E_ci 1 rfl ci1 ?_
  refine E_bin rfl (nJ_add _ _) ?_
  refine E_sld rfl (by omega) hL ?_
  refine E_call rfl (tQ_int (by decide +kernel) (by decide +kernel) I1.2 (top_TQ (d := 30) rfl I1.1 (tp_ring (d := 0) I1.1.1 (I1.1.2.2.1 0 (by omega))))) (chkR (a := 77) I1.1.1 rfl rfl rfl rfl (by show 0 ≤ 8; decide)) (fun h2 r2 => ?_)
  rintro ⟨I2, x2, f2⟩
  rw [f2]
  show Ends _ _ (772, lv, [.int x2], h2, 599897, 7298671) _
  refine E_pop rfl rfl ?_
  refine E_goto rfl ?_
  exact K _ I2
set_option maxRecDepth 20000 in
theorem bl_20 {L : Nat} {xs : Nat → Int32} (hL : L ≤ 3072) {h : pm_H} {i : Nat} (hi : i + 6 ≤ L) (lv : List (Nat × Value)) (I : IVQ h) (L0 : pm_get lv 0 = some (.retAddr 0)) (L1 : pm_get lv 1 = some (.ref 0)) (L2 : pm_get lv 2 = some (.ref 77)) (L3 : pm_get lv 3 = some (.int (nJ i))) (K : ∀ h', IVQ h' → Ends (pm_tr (lb_all L xs)) (pm_Rt pm_P 100) (2392, lv, [], h', 599897, 7298671) RQ1) : Ends (pm_tr (lb_all L xs)) (pm_Rt pm_P 100) (776, lv, [], h, 599897, 7298671) RQ1 := by
  refine E_al rfl L1 ?_
  refine E_call rfl (tQ_int (by decide +kernel) (by decide +kernel) I.2 (top_int (as := [.ref 0]) q278 (by decide +kernel) (by decide +kernel) I.1 ⟨rfl, trivial⟩)) (chkR (a := 0) I.1.1 rfl rfl rfl rfl (by show 0 ≤ 8; decide)) (fun h1 r1 => ?_)
  rintro ⟨I1, x1, f1⟩
  rw [f1]
  show Ends _ _ (780, lv, [.int x1], h1, 599897, 7298671) _
  refine E_pop rfl rfl ?_
  refine E_al rfl L2 ?_
  refine E_call rfl (tQ_int (by decide +kernel) (by decide +kernel) I1.2 (top_TQ (d := 30) rfl I1.1 (tp_hole (d := 0) I1.1.1 (I1.1.2.2.1 0 (by omega))))) (chkR (a := 77) I1.1.1 rfl rfl rfl rfl (by show 0 ≤ 8; decide)) (fun h2 r2 => ?_)
  rintro ⟨I2, x2, f2⟩
  rw [f2]
  show Ends _ _ (785, lv, [.int x2], h2, 599897, 7298671) _
  refine E_pop rfl rfl ?_
  refine E_goto rfl ?_
  exact K _ I2
set_option maxRecDepth 20000 in
theorem bl_21 {L : Nat} {xs : Nat → Int32} (hL : L ≤ 3072) {h : pm_H} {i : Nat} (hi : i + 6 ≤ L) (lv : List (Nat × Value)) (I : IVQ h) (L0 : pm_get lv 0 = some (.retAddr 0)) (L1 : pm_get lv 1 = some (.ref 0)) (L2 : pm_get lv 2 = some (.ref 77)) (L3 : pm_get lv 3 = some (.int (nJ i))) (K : ∀ h', IVQ h' → Ends (pm_tr (lb_all L xs)) (pm_Rt pm_P 100) (2392, lv, [], h', 599897, 7298671) RQ1) : Ends (pm_tr (lb_all L xs)) (pm_Rt pm_P 100) (789, lv, [], h, 599897, 7298671) RQ1 := by
  refine E_al rfl L1 ?_
  refine E_call rfl (tQ_int (by decide +kernel) (by decide +kernel) I.2 (top_int (as := [.ref 0]) q279 (by decide +kernel) (by decide +kernel) I.1 ⟨rfl, trivial⟩)) (chkR (a := 0) I.1.1 rfl rfl rfl rfl (by show 0 ≤ 8; decide)) (fun h1 r1 => ?_)
  rintro ⟨I1, x1, f1⟩
  rw [f1]
  show Ends _ _ (793, lv, [.int x1], h1, 599897, 7298671) _
  refine E_pop rfl rfl ?_
  refine E_al rfl L2 ?_
  refine E_call rfl (tQ_int (by decide +kernel) (by decide +kernel) I1.2 (top_TQ (d := 30) rfl I1.1 (tp_shifts (d := 0) I1.1.1 (I1.1.2.2.1 0 (by omega))))) (chkR (a := 77) I1.1.1 rfl rfl rfl rfl (by show 0 ≤ 8; decide)) (fun h2 r2 => ?_)
  rintro ⟨I2, x2, f2⟩
  rw [f2]
  show Ends _ _ (798, lv, [.int x2], h2, 599897, 7298671) _
  refine E_pop rfl rfl ?_
  refine E_goto rfl ?_
  exact K _ I2
set_option maxRecDepth 20000 in
theorem bl_22 {L : Nat} {xs : Nat → Int32} (hL : L ≤ 3072) {h : pm_H} {i : Nat} (hi : i + 6 ≤ L) (lv : List (Nat × Value)) (I : IVQ h) (L0 : pm_get lv 0 = some (.retAddr 0)) (L1 : pm_get lv 1 = some (.ref 0)) (L2 : pm_get lv 2 = some (.ref 77)) (L3 : pm_get lv 3 = some (.int (nJ i))) (K : ∀ h', IVQ h' → Ends (pm_tr (lb_all L xs)) (pm_Rt pm_P 100) (2392, lv, [], h', 599897, 7298671) RQ1) : Ends (pm_tr (lb_all L xs)) (pm_Rt pm_P 100) (802, lv, [], h, 599897, 7298671) RQ1 := by
  refine E_al rfl L1 ?_
  refine E_alr rfl L0 ?_
  refine E_il rfl L3 ?_
  refine E_ci 1 rfl ci1 ?_
  refine E_bin rfl (nJ_add _ _) ?_
  refine E_sld rfl (by omega) hL ?_
  refine E_alr rfl L0 ?_
  refine E_il rfl L3 ?_
  refine E_ci 2 rfl ci2 ?_
  refine E_bin rfl (nJ_add _ _) ?_
  refine E_sld rfl (by omega) hL ?_
  refine E_call rfl (tQ_int (by decide +kernel) (by decide +kernel) I.2 (top_int (as := [.ref 0, .int (xs ((i + 1))), .int (xs ((i + 2)))]) q280 (by decide +kernel) (by decide +kernel) I.1 ⟨rfl, aI _, aI _, trivial⟩)) (chkR (a := 0) I.1.1 rfl rfl rfl rfl (by show 0 ≤ 8; decide)) (fun h1 r1 => ?_)
  rintro ⟨I1, x1, f1⟩
  rw [f1]
  show Ends _ _ (816, lv, [.int x1], h1, 599897, 7298671) _
  refine E_pop rfl rfl ?_
  refine E_al rfl L2 ?_
  refine E_alr rfl L0 ?_
  refine E_il rfl L3 ?_
  refine E_ci 1 rfl ci1 ?_
  refine E_bin rfl (nJ_add _ _) ?_
  refine E_sld rfl (by omega) hL ?_
  refine E_alr rfl L0 ?_
  refine E_il rfl L3 ?_
  refine E_ci 2 rfl ci2 ?_
  refine E_bin rfl (nJ_add _ _) ?_
  refine E_sld rfl (by omega) hL ?_
  refine E_call rfl (tQ_int (by decide +kernel) (by decide +kernel) I1.2 (top_int (as := [.ref 77, .int (xs ((i + 1))), .int (xs ((i + 2)))]) q283 (by decide +kernel) (by decide +kernel) I1.1 ⟨rfl, aI _, aI _, trivial⟩)) (chkR (a := 77) I1.1.1 rfl rfl rfl rfl (by show 0 ≤ 8; decide)) (fun h2 r2 => ?_)
  rintro ⟨I2, x2, f2⟩
  rw [f2]
  show Ends _ _ (831, lv, [.int x2], h2, 599897, 7298671) _
  refine E_pop rfl rfl ?_
  refine E_goto rfl ?_
  exact K _ I2
set_option maxRecDepth 20000 in
theorem bl_23 {L : Nat} {xs : Nat → Int32} (hL : L ≤ 3072) {h : pm_H} {i : Nat} (hi : i + 6 ≤ L) (lv : List (Nat × Value)) (I : IVQ h) (L0 : pm_get lv 0 = some (.retAddr 0)) (L1 : pm_get lv 1 = some (.ref 0)) (L2 : pm_get lv 2 = some (.ref 77)) (L3 : pm_get lv 3 = some (.int (nJ i))) (K : ∀ h', IVQ h' → Ends (pm_tr (lb_all L xs)) (pm_Rt pm_P 100) (2392, lv, [], h', 599897, 7298671) RQ1) : Ends (pm_tr (lb_all L xs)) (pm_Rt pm_P 100) (835, lv, [], h, 599897, 7298671) RQ1 := by
  refine E_al rfl L1 ?_
  refine E_alr rfl L0 ?_
  refine E_il rfl L3 ?_
  refine E_ci 1 rfl ci1 ?_
  refine E_bin rfl (nJ_add _ _) ?_
  refine E_sld rfl (by omega) hL ?_
  refine E_call rfl (tQ_int (by decide +kernel) (by decide +kernel) I.2 (top_int (as := [.ref 0, .int (xs ((i + 1)))]) q289 (by decide +kernel) (by decide +kernel) I.1 ⟨rfl, aI _, trivial⟩)) (chkR (a := 0) I.1.1 rfl rfl rfl rfl (by show 0 ≤ 8; decide)) (fun h1 r1 => ?_)
  rintro ⟨I1, x1, f1⟩
  rw [f1]
  show Ends _ _ (844, lv, [.int x1], h1, 599897, 7298671) _
  refine E_pop rfl rfl ?_
  refine E_al rfl L2 ?_
  refine E_alr rfl L0 ?_
  refine E_il rfl L3 ?_
  refine E_ci 1 rfl ci1 ?_
  refine E_bin rfl (nJ_add _ _) ?_
  refine E_sld rfl (by omega) hL ?_
  refine E_call rfl (tQ_int (by decide +kernel) (by decide +kernel) I1.2 (top_TQ (d := 30) rfl I1.1 (tp_parent (d := 0) I1.1.1 (I1.1.2.2.1 0 (by omega))))) (chkR (a := 77) I1.1.1 rfl rfl rfl rfl (by show 0 ≤ 8; decide)) (fun h2 r2 => ?_)
  rintro ⟨I2, x2, f2⟩
  rw [f2]
  show Ends _ _ (854, lv, [.int x2], h2, 599897, 7298671) _
  refine E_pop rfl rfl ?_
  refine E_goto rfl ?_
  exact K _ I2
set_option maxRecDepth 20000 in
theorem bl_24 {L : Nat} {xs : Nat → Int32} (hL : L ≤ 3072) {h : pm_H} {i : Nat} (hi : i + 6 ≤ L) (lv : List (Nat × Value)) (I : IVQ h) (L0 : pm_get lv 0 = some (.retAddr 0)) (L1 : pm_get lv 1 = some (.ref 0)) (L2 : pm_get lv 2 = some (.ref 77)) (L3 : pm_get lv 3 = some (.int (nJ i))) (K : ∀ h', IVQ h' → Ends (pm_tr (lb_all L xs)) (pm_Rt pm_P 100) (2392, lv, [], h', 599897, 7298671) RQ1) : Ends (pm_tr (lb_all L xs)) (pm_Rt pm_P 100) (858, lv, [], h, 599897, 7298671) RQ1 := by
  refine E_al rfl L1 ?_
  refine E_alr rfl L0 ?_
  refine E_il rfl L3 ?_
  refine E_ci 1 rfl ci1 ?_
  refine E_bin rfl (nJ_add _ _) ?_
  refine E_sld rfl (by omega) hL ?_
  refine E_call rfl (tQ_int (by decide +kernel) (by decide +kernel) I.2 (top_int (as := [.ref 0, .int (xs ((i + 1)))]) q291 (by decide +kernel) (by decide +kernel) I.1 ⟨rfl, aI _, trivial⟩)) (chkR (a := 0) I.1.1 rfl rfl rfl rfl (by show 0 ≤ 8; decide)) (fun h1 r1 => ?_)
  rintro ⟨I1, x1, f1⟩
  rw [f1]
  show Ends _ _ (867, lv, [.int x1], h1, 599897, 7298671) _
  refine E_pop rfl rfl ?_
  refine E_al rfl L2 ?_
  refine E_alr rfl L0 ?_
  refine E_il rfl L3 ?_
  refine E_ci 1 rfl ci1 ?_
  refine E_bin rfl (nJ_add _ _) ?_
  refine E_sld rfl (by omega) hL ?_
  refine E_call rfl (tQ_int (by decide +kernel) (by decide +kernel) I1.2 (top_TQ (d := 30) rfl I1.1 (tp_depth (d := 0) I1.1.1 (I1.1.2.2.1 0 (by omega))))) (chkR (a := 77) I1.1.1 rfl rfl rfl rfl (by show 0 ≤ 8; decide)) (fun h2 r2 => ?_)
  rintro ⟨I2, x2, f2⟩
  rw [f2]
  show Ends _ _ (877, lv, [.int x2], h2, 599897, 7298671) _
  refine E_pop rfl rfl ?_
  refine E_goto rfl ?_
  exact K _ I2
set_option maxRecDepth 20000 in
theorem bl_25 {L : Nat} {xs : Nat → Int32} (hL : L ≤ 3072) {h : pm_H} {i : Nat} (hi : i + 6 ≤ L) (lv : List (Nat × Value)) (I : IVQ h) (L0 : pm_get lv 0 = some (.retAddr 0)) (L1 : pm_get lv 1 = some (.ref 0)) (L2 : pm_get lv 2 = some (.ref 77)) (L3 : pm_get lv 3 = some (.int (nJ i))) (K : ∀ h', IVQ h' → Ends (pm_tr (lb_all L xs)) (pm_Rt pm_P 100) (2392, lv, [], h', 599897, 7298671) RQ1) : Ends (pm_tr (lb_all L xs)) (pm_Rt pm_P 100) (881, lv, [], h, 599897, 7298671) RQ1 := by
  refine E_al rfl L1 ?_
  refine E_alr rfl L0 ?_
  refine E_il rfl L3 ?_
  refine E_ci 1 rfl ci1 ?_
  refine E_bin rfl (nJ_add _ _) ?_
  refine E_sld rfl (by omega) hL ?_
  refine E_call rfl (tQ_int (by decide +kernel) (by decide +kernel) I.2 (top_int (as := [.ref 0, .int (xs ((i + 1)))]) q293 (by decide +kernel) (by decide +kernel) I.1 ⟨rfl, aI _, trivial⟩)) (chkR (a := 0) I.1.1 rfl rfl rfl rfl (by show 0 ≤ 8; decide)) (fun h1 r1 => ?_)
  rintro ⟨I1, x1, f1⟩
  rw [f1]
  show Ends _ _ (890, lv, [.int x1], h1, 599897, 7298671) _
  refine E_pop rfl rfl ?_
  refine E_al rfl L2 ?_
  refine E_alr rfl L0 ?_
  refine E_il rfl L3 ?_
  refine E_ci 1 rfl ci1 ?_
  refine E_bin rfl (nJ_add _ _) ?_
  refine E_sld rfl (by omega) hL ?_
  refine E_call rfl (tQ_int (by decide +kernel) (by decide +kernel) I1.2 (top_TQ (d := 30) rfl I1.1 (tp_kids (d := 0) I1.1.1 (I1.1.2.2.1 0 (by omega))))) (chkR (a := 77) I1.1.1 rfl rfl rfl rfl (by show 0 ≤ 8; decide)) (fun h2 r2 => ?_)
  rintro ⟨I2, x2, f2⟩
  rw [f2]
  show Ends _ _ (900, lv, [.int x2], h2, 599897, 7298671) _
  refine E_pop rfl rfl ?_
  refine E_goto rfl ?_
  exact K _ I2
set_option maxRecDepth 20000 in
theorem bl_26 {L : Nat} {xs : Nat → Int32} (hL : L ≤ 3072) {h : pm_H} {i : Nat} (hi : i + 6 ≤ L) (lv : List (Nat × Value)) (I : IVQ h) (L0 : pm_get lv 0 = some (.retAddr 0)) (L1 : pm_get lv 1 = some (.ref 0)) (L2 : pm_get lv 2 = some (.ref 77)) (L3 : pm_get lv 3 = some (.int (nJ i))) (K : ∀ h', IVQ h' → Ends (pm_tr (lb_all L xs)) (pm_Rt pm_P 100) (2392, lv, [], h', 599897, 7298671) RQ1) : Ends (pm_tr (lb_all L xs)) (pm_Rt pm_P 100) (904, lv, [], h, 599897, 7298671) RQ1 := by
  refine E_al rfl L1 ?_
  refine E_alr rfl L0 ?_
  refine E_il rfl L3 ?_
  refine E_ci 1 rfl ci1 ?_
  refine E_bin rfl (nJ_add _ _) ?_
  refine E_sld rfl (by omega) hL ?_
  refine E_call rfl (tQ_int (by decide +kernel) (by decide +kernel) I.2 (top_int (as := [.ref 0, .int (xs ((i + 1)))]) q296 (by decide +kernel) (by decide +kernel) I.1 ⟨rfl, aI _, trivial⟩)) (chkR (a := 0) I.1.1 rfl rfl rfl rfl (by show 0 ≤ 8; decide)) (fun h1 r1 => ?_)
  rintro ⟨I1, x1, f1⟩
  rw [f1]
  show Ends _ _ (913, lv, [.int x1], h1, 599897, 7298671) _
  refine E_pop rfl rfl ?_
  refine E_al rfl L2 ?_
  refine E_alr rfl L0 ?_
  refine E_il rfl L3 ?_
  refine E_ci 1 rfl ci1 ?_
  refine E_bin rfl (nJ_add _ _) ?_
  refine E_sld rfl (by omega) hL ?_
  refine E_call rfl (tQ_int (by decide +kernel) (by decide +kernel) I1.2 (top_TQ (d := 30) rfl I1.1 (tp_queue (d := 0) I1.1.1 (I1.1.2.2.1 0 (by omega))))) (chkR (a := 77) I1.1.1 rfl rfl rfl rfl (by show 0 ≤ 8; decide)) (fun h2 r2 => ?_)
  rintro ⟨I2, x2, f2⟩
  rw [f2]
  show Ends _ _ (923, lv, [.int x2], h2, 599897, 7298671) _
  refine E_pop rfl rfl ?_
  refine E_goto rfl ?_
  exact K _ I2
set_option maxRecDepth 20000 in
theorem bl_27 {L : Nat} {xs : Nat → Int32} (hL : L ≤ 3072) {h : pm_H} {i : Nat} (hi : i + 6 ≤ L) (lv : List (Nat × Value)) (I : IVQ h) (L0 : pm_get lv 0 = some (.retAddr 0)) (L1 : pm_get lv 1 = some (.ref 0)) (L2 : pm_get lv 2 = some (.ref 77)) (L3 : pm_get lv 3 = some (.int (nJ i))) (K : ∀ h', IVQ h' → Ends (pm_tr (lb_all L xs)) (pm_Rt pm_P 100) (2392, lv, [], h', 599897, 7298671) RQ1) : Ends (pm_tr (lb_all L xs)) (pm_Rt pm_P 100) (927, lv, [], h, 599897, 7298671) RQ1 := by
  refine E_al rfl L1 ?_
  refine E_call rfl (tQ_int (by decide +kernel) (by decide +kernel) I.2 (top_int (as := [.ref 0]) q298 (by decide +kernel) (by decide +kernel) I.1 ⟨rfl, trivial⟩)) (chkR (a := 0) I.1.1 rfl rfl rfl rfl (by show 0 ≤ 8; decide)) (fun h1 r1 => ?_)
  rintro ⟨I1, x1, f1⟩
  rw [f1]
  show Ends _ _ (931, lv, [.int x1], h1, 599897, 7298671) _
  refine E_pop rfl rfl ?_
  refine E_al rfl L2 ?_
  refine E_call rfl (tQ_int (by decide +kernel) (by decide +kernel) I1.2 (top_TQ (d := 30) rfl I1.1 (tp_leaves (d := 0) I1.1.1 (I1.1.2.2.1 0 (by omega))))) (chkR (a := 77) I1.1.1 rfl rfl rfl rfl (by show 0 ≤ 8; decide)) (fun h2 r2 => ?_)
  rintro ⟨I2, x2, f2⟩
  rw [f2]
  show Ends _ _ (936, lv, [.int x2], h2, 599897, 7298671) _
  refine E_pop rfl rfl ?_
  refine E_goto rfl ?_
  exact K _ I2
set_option maxRecDepth 20000 in
theorem bl_28 {L : Nat} {xs : Nat → Int32} (hL : L ≤ 3072) {h : pm_H} {i : Nat} (hi : i + 6 ≤ L) (lv : List (Nat × Value)) (I : IVQ h) (L0 : pm_get lv 0 = some (.retAddr 0)) (L1 : pm_get lv 1 = some (.ref 0)) (L2 : pm_get lv 2 = some (.ref 77)) (L3 : pm_get lv 3 = some (.int (nJ i))) (K : ∀ h', IVQ h' → Ends (pm_tr (lb_all L xs)) (pm_Rt pm_P 100) (2392, lv, [], h', 599897, 7298671) RQ1) : Ends (pm_tr (lb_all L xs)) (pm_Rt pm_P 100) (940, lv, [], h, 599897, 7298671) RQ1 := by
  refine E_al rfl L1 ?_
  refine E_call rfl (tQ_int (by decide +kernel) (by decide +kernel) I.2 (top_int (as := [.ref 0]) q301 (by decide +kernel) (by decide +kernel) I.1 ⟨rfl, trivial⟩)) (chkR (a := 0) I.1.1 rfl rfl rfl rfl (by show 0 ≤ 8; decide)) (fun h1 r1 => ?_)
  rintro ⟨I1, x1, f1⟩
  rw [f1]
  show Ends _ _ (944, lv, [.int x1], h1, 599897, 7298671) _
  refine E_pop rfl rfl ?_
  refine E_al rfl L2 ?_
  refine E_call rfl (tQ_int (by decide +kernel) (by decide +kernel) I1.2 (top_TQ (d := 30) rfl I1.1 (tp_inversions (d := 0) I1.1.1 (I1.1.2.2.1 0 (by omega))))) (chkR (a := 77) I1.1.1 rfl rfl rfl rfl (by show 0 ≤ 8; decide)) (fun h2 r2 => ?_)
  rintro ⟨I2, x2, f2⟩
  rw [f2]
  show Ends _ _ (949, lv, [.int x2], h2, 599897, 7298671) _
  refine E_pop rfl rfl ?_
  refine E_goto rfl ?_
  exact K _ I2
set_option maxRecDepth 20000 in
theorem bl_29 {L : Nat} {xs : Nat → Int32} (hL : L ≤ 3072) {h : pm_H} {i : Nat} (hi : i + 6 ≤ L) (lv : List (Nat × Value)) (I : IVQ h) (L0 : pm_get lv 0 = some (.retAddr 0)) (L1 : pm_get lv 1 = some (.ref 0)) (L2 : pm_get lv 2 = some (.ref 77)) (L3 : pm_get lv 3 = some (.int (nJ i))) (K : ∀ h', IVQ h' → Ends (pm_tr (lb_all L xs)) (pm_Rt pm_P 100) (2392, lv, [], h', 599897, 7298671) RQ1) : Ends (pm_tr (lb_all L xs)) (pm_Rt pm_P 100) (953, lv, [], h, 599897, 7298671) RQ1 := by
  refine E_al rfl L1 ?_
  refine E_alr rfl L0 ?_
  refine E_il rfl L3 ?_
  refine E_ci 1 rfl ci1 ?_
  refine E_bin rfl (nJ_add _ _) ?_
  refine E_sld rfl (by omega) hL ?_
  refine E_call rfl (g8_code I) (chkR (a := 0) I.1.1 rfl rfl rfl rfl (by show 0 ≤ 8; decide)) (fun h1 r1 => ?_)
  rintro ⟨I1, x1, f1, J1⟩
  rw [f1]
  show Ends _ _ (962, lv, [.int x1], h1, 599897, 7298671) _
  refine E_al rfl L2 ?_
  refine E_alr rfl L0 ?_
  refine E_il rfl L3 ?_
  refine E_ci 1 rfl ci1 ?_
  refine E_bin rfl (nJ_add _ _) ?_
  refine E_sld rfl (by omega) hL ?_
  refine E_call rfl (g9_code I1 J1) (chkR (a := 77) I1.1 rfl rfl rfl rfl (by show 1 ≤ 8; decide)) (fun h2 r2 => ?_)
  rintro ⟨I2, f2⟩
  rw [f2]
  show Ends _ _ (971, lv, [.int x1, .int x1], h2, 599897, 7298671) _
  refine E_icT rfl (decide_eq_true rfl) ?_
  exact K _ I2
set_option maxRecDepth 20000 in
theorem bl_30 {L : Nat} {xs : Nat → Int32} (hL : L ≤ 3072) {h : pm_H} {i : Nat} (hi : i + 6 ≤ L) (lv : List (Nat × Value)) (I : IVQ h) (L0 : pm_get lv 0 = some (.retAddr 0)) (L1 : pm_get lv 1 = some (.ref 0)) (L2 : pm_get lv 2 = some (.ref 77)) (L3 : pm_get lv 3 = some (.int (nJ i))) (K : ∀ h', IVQ h' → Ends (pm_tr (lb_all L xs)) (pm_Rt pm_P 100) (2392, lv, [], h', 599897, 7298671) RQ1) : Ends (pm_tr (lb_all L xs)) (pm_Rt pm_P 100) (976, lv, [], h, 599897, 7298671) RQ1 := by
  refine E_al rfl L1 ?_
  refine E_alr rfl L0 ?_
  refine E_il rfl L3 ?_
  refine E_ci 1 rfl ci1 ?_
  refine E_bin rfl (nJ_add _ _) ?_
  refine E_sld rfl (by omega) hL ?_
  refine E_call rfl (tQ_int (by decide +kernel) (by decide +kernel) I.2 (top_int (as := [.ref 0, .int (xs ((i + 1)))]) q312 (by decide +kernel) (by decide +kernel) I.1 ⟨rfl, aI _, trivial⟩)) (chkR (a := 0) I.1.1 rfl rfl rfl rfl (by show 0 ≤ 8; decide)) (fun h1 r1 => ?_)
  rintro ⟨I1, x1, f1⟩
  rw [f1]
  show Ends _ _ (985, lv, [.int x1], h1, 599897, 7298671) _
  refine E_pop rfl rfl ?_
  refine E_al rfl L2 ?_
  refine E_alr rfl L0 ?_
  refine E_il rfl L3 ?_
  refine E_ci 1 rfl ci1 ?_
  refine E_bin rfl (nJ_add _ _) ?_
  refine E_sld rfl (by omega) hL ?_
  refine E_call rfl (tQ_int (by decide +kernel) (by decide +kernel) I1.2 (top_TQ (d := 30) rfl I1.1 (tp_burnt (d := 0) I1.1.1 (I1.1.2.2.1 0 (by omega))))) (chkR (a := 77) I1.1.1 rfl rfl rfl rfl (by show 0 ≤ 8; decide)) (fun h2 r2 => ?_)
  rintro ⟨I2, x2, f2⟩
  rw [f2]
  show Ends _ _ (995, lv, [.int x2], h2, 599897, 7298671) _
  refine E_pop rfl rfl ?_
  refine E_goto rfl ?_
  exact K _ I2
set_option maxRecDepth 20000 in
theorem bl_31 {L : Nat} {xs : Nat → Int32} (hL : L ≤ 3072) {h : pm_H} {i : Nat} (hi : i + 6 ≤ L) (lv : List (Nat × Value)) (I : IVQ h) (L0 : pm_get lv 0 = some (.retAddr 0)) (L1 : pm_get lv 1 = some (.ref 0)) (L2 : pm_get lv 2 = some (.ref 77)) (L3 : pm_get lv 3 = some (.int (nJ i))) (K : ∀ h', IVQ h' → Ends (pm_tr (lb_all L xs)) (pm_Rt pm_P 100) (2392, lv, [], h', 599897, 7298671) RQ1) : Ends (pm_tr (lb_all L xs)) (pm_Rt pm_P 100) (999, lv, [], h, 599897, 7298671) RQ1 := by
  refine E_al rfl L1 ?_
  refine E_call rfl (tQ_int (by decide +kernel) (by decide +kernel) I.2 (top_int (as := [.ref 0]) q313 (by decide +kernel) (by decide +kernel) I.1 ⟨rfl, trivial⟩)) (chkR (a := 0) I.1.1 rfl rfl rfl rfl (by show 0 ≤ 8; decide)) (fun h1 r1 => ?_)
  rintro ⟨I1, x1, f1⟩
  rw [f1]
  show Ends _ _ (1003, lv, [.int x1], h1, 599897, 7298671) _
  refine E_pop rfl rfl ?_
  refine E_al rfl L2 ?_
  refine E_call rfl (tQ_int (by decide +kernel) (by decide +kernel) I1.2 (top_TQ (d := 30) rfl I1.1 (tp_turned (d := 0) I1.1.1 (I1.1.2.2.1 0 (by omega))))) (chkR (a := 77) I1.1.1 rfl rfl rfl rfl (by show 0 ≤ 8; decide)) (fun h2 r2 => ?_)
  rintro ⟨I2, x2, f2⟩
  rw [f2]
  show Ends _ _ (1008, lv, [.int x2], h2, 599897, 7298671) _
  refine E_pop rfl rfl ?_
  refine E_goto rfl ?_
  exact K _ I2
set_option maxRecDepth 20000 in
theorem bl_32 {L : Nat} {xs : Nat → Int32} (hL : L ≤ 3072) {h : pm_H} {i : Nat} (hi : i + 6 ≤ L) (lv : List (Nat × Value)) (I : IVQ h) (L0 : pm_get lv 0 = some (.retAddr 0)) (L1 : pm_get lv 1 = some (.ref 0)) (L2 : pm_get lv 2 = some (.ref 77)) (L3 : pm_get lv 3 = some (.int (nJ i))) (K : ∀ h', IVQ h' → Ends (pm_tr (lb_all L xs)) (pm_Rt pm_P 100) (2392, lv, [], h', 599897, 7298671) RQ1) : Ends (pm_tr (lb_all L xs)) (pm_Rt pm_P 100) (1012, lv, [], h, 599897, 7298671) RQ1 := by
  refine E_al rfl L1 ?_
  refine E_alr rfl L0 ?_
  refine E_il rfl L3 ?_
  refine E_ci 1 rfl ci1 ?_
  refine E_bin rfl (nJ_add _ _) ?_
  refine E_sld rfl (by omega) hL ?_
  refine E_call rfl (tQ_int (by decide +kernel) (by decide +kernel) I.2 (top_int (as := [.ref 0, .int (xs ((i + 1)))]) q314 (by decide +kernel) (by decide +kernel) I.1 ⟨rfl, aI _, trivial⟩)) (chkR (a := 0) I.1.1 rfl rfl rfl rfl (by show 0 ≤ 8; decide)) (fun h1 r1 => ?_)
  rintro ⟨I1, x1, f1⟩
  rw [f1]
  show Ends _ _ (1021, lv, [.int x1], h1, 599897, 7298671) _
  refine E_pop rfl rfl ?_
  refine E_al rfl L2 ?_
  refine E_alr rfl L0 ?_
  refine E_il rfl L3 ?_
  refine E_ci 1 rfl ci1 ?_
  refine E_bin rfl (nJ_add _ _) ?_
  refine E_sld rfl (by omega) hL ?_
  refine E_call rfl (tQ_int (by decide +kernel) (by decide +kernel) I1.2 (top_TQ (d := 30) rfl I1.1 (tp_visit (d := 0) I1.1.1 (I1.1.2.2.1 0 (by omega))))) (chkR (a := 77) I1.1.1 rfl rfl rfl rfl (by show 0 ≤ 8; decide)) (fun h2 r2 => ?_)
  rintro ⟨I2, x2, f2⟩
  rw [f2]
  show Ends _ _ (1031, lv, [.int x2], h2, 599897, 7298671) _
  refine E_pop rfl rfl ?_
  refine E_goto rfl ?_
  exact K _ I2
set_option maxRecDepth 20000 in
theorem bl_33 {L : Nat} {xs : Nat → Int32} (hL : L ≤ 3072) {h : pm_H} {i : Nat} (hi : i + 6 ≤ L) (lv : List (Nat × Value)) (I : IVQ h) (L0 : pm_get lv 0 = some (.retAddr 0)) (L1 : pm_get lv 1 = some (.ref 0)) (L2 : pm_get lv 2 = some (.ref 77)) (L3 : pm_get lv 3 = some (.int (nJ i))) (K : ∀ h', IVQ h' → Ends (pm_tr (lb_all L xs)) (pm_Rt pm_P 100) (2392, lv, [], h', 599897, 7298671) RQ1) : Ends (pm_tr (lb_all L xs)) (pm_Rt pm_P 100) (1035, lv, [], h, 599897, 7298671) RQ1 := by
  refine E_al rfl L1 ?_
  refine E_alr rfl L0 ?_
  refine E_il rfl L3 ?_
  refine E_ci 1 rfl ci1 ?_
  refine E_bin rfl (nJ_add _ _) ?_
  refine E_sld rfl (by omega) hL ?_
  refine E_alr rfl L0 ?_
  refine E_il rfl L3 ?_
  refine E_ci 2 rfl ci2 ?_
  refine E_bin rfl (nJ_add _ _) ?_
  refine E_sld rfl (by omega) hL ?_
  refine E_call rfl (tQ_int (by decide +kernel) (by decide +kernel) I.2 (top_int (as := [.ref 0, .int (xs ((i + 1))), .int (xs ((i + 2)))]) q484 (by decide +kernel) (by decide +kernel) I.1 ⟨rfl, aI _, aI _, trivial⟩)) (chkR (a := 0) I.1.1 rfl rfl rfl rfl (by show 0 ≤ 8; decide)) (fun h1 r1 => ?_)
  rintro ⟨I1, x1, f1⟩
  rw [f1]
  show Ends _ _ (1049, lv, [.int x1], h1, 599897, 7298671) _
  refine E_pop rfl rfl ?_
  refine E_al rfl L2 ?_
  refine E_alr rfl L0 ?_
  refine E_il rfl L3 ?_
  refine E_ci 1 rfl ci1 ?_
  refine E_bin rfl (nJ_add _ _) ?_
  refine E_sld rfl (by omega) hL ?_
  refine E_alr rfl L0 ?_
  refine E_il rfl L3 ?_
  refine E_ci 2 rfl ci2 ?_
  refine E_bin rfl (nJ_add _ _) ?_
  refine E_sld rfl (by omega) hL ?_
  refine E_call rfl (tQ_int (by decide +kernel) (by decide +kernel) I1.2 (top_TQ (d := 30) rfl I1.1 (tp_above (d := 0) I1.1.1 (I1.1.2.2.1 0 (by omega))))) (chkR (a := 77) I1.1.1 rfl rfl rfl rfl (by show 0 ≤ 8; decide)) (fun h2 r2 => ?_)
  rintro ⟨I2, x2, f2⟩
  rw [f2]
  show Ends _ _ (1064, lv, [.int x2], h2, 599897, 7298671) _
  refine E_pop rfl rfl ?_
  refine E_goto rfl ?_
  exact K _ I2
set_option maxRecDepth 20000 in
theorem bl_34 {L : Nat} {xs : Nat → Int32} (hL : L ≤ 3072) {h : pm_H} {i : Nat} (hi : i + 6 ≤ L) (lv : List (Nat × Value)) (I : IVQ h) (L0 : pm_get lv 0 = some (.retAddr 0)) (L1 : pm_get lv 1 = some (.ref 0)) (L2 : pm_get lv 2 = some (.ref 77)) (L3 : pm_get lv 3 = some (.int (nJ i))) (K : ∀ h', IVQ h' → Ends (pm_tr (lb_all L xs)) (pm_Rt pm_P 100) (2392, lv, [], h', 599897, 7298671) RQ1) : Ends (pm_tr (lb_all L xs)) (pm_Rt pm_P 100) (1068, lv, [], h, 599897, 7298671) RQ1 := by
  refine E_al rfl L1 ?_
  refine E_alr rfl L0 ?_
  refine E_il rfl L3 ?_
  refine E_ci 1 rfl ci1 ?_
  refine E_bin rfl (nJ_add _ _) ?_
  refine E_sld rfl (by omega) hL ?_
  refine E_alr rfl L0 ?_
  refine E_il rfl L3 ?_
  refine E_ci 2 rfl ci2 ?_
  refine E_bin rfl (nJ_add _ _) ?_
  refine E_sld rfl (by omega) hL ?_
  refine E_call rfl (tQ_int (by decide +kernel) (by decide +kernel) I.2 (top_int (as := [.ref 0, .int (xs ((i + 1))), .int (xs ((i + 2)))]) q491 (by decide +kernel) (by decide +kernel) I.1 ⟨rfl, aI _, aI _, trivial⟩)) (chkR (a := 0) I.1.1 rfl rfl rfl rfl (by show 0 ≤ 8; decide)) (fun h1 r1 => ?_)
  rintro ⟨I1, x1, f1⟩
  rw [f1]
  show Ends _ _ (1082, lv, [.int x1], h1, 599897, 7298671) _
  refine E_pop rfl rfl ?_
  refine E_al rfl L2 ?_
  refine E_alr rfl L0 ?_
  refine E_il rfl L3 ?_
  refine E_ci 1 rfl ci1 ?_
  refine E_bin rfl (nJ_add _ _) ?_
  refine E_sld rfl (by omega) hL ?_
  refine E_alr rfl L0 ?_
  refine E_il rfl L3 ?_
  refine E_ci 2 rfl ci2 ?_
  refine E_bin rfl (nJ_add _ _) ?_
  refine E_sld rfl (by omega) hL ?_
  refine E_call rfl (tQ_int (by decide +kernel) (by decide +kernel) I1.2 (top_TQ (d := 30) rfl I1.1 (tp_wish (d := 0) I1.1.1 (I1.1.2.2.1 0 (by omega))))) (chkR (a := 77) I1.1.1 rfl rfl rfl rfl (by show 0 ≤ 8; decide)) (fun h2 r2 => ?_)
  rintro ⟨I2, x2, f2⟩
  rw [f2]
  show Ends _ _ (1097, lv, [.int x2], h2, 599897, 7298671) _
  refine E_pop rfl rfl ?_
  refine E_goto rfl ?_
  exact K _ I2
set_option maxRecDepth 20000 in
theorem bl_35 {L : Nat} {xs : Nat → Int32} (hL : L ≤ 3072) {h : pm_H} {i : Nat} (hi : i + 6 ≤ L) (lv : List (Nat × Value)) (I : IVQ h) (L0 : pm_get lv 0 = some (.retAddr 0)) (L1 : pm_get lv 1 = some (.ref 0)) (L2 : pm_get lv 2 = some (.ref 77)) (L3 : pm_get lv 3 = some (.int (nJ i))) (K : ∀ h', IVQ h' → Ends (pm_tr (lb_all L xs)) (pm_Rt pm_P 100) (2392, lv, [], h', 599897, 7298671) RQ1) : Ends (pm_tr (lb_all L xs)) (pm_Rt pm_P 100) (1101, lv, [], h, 599897, 7298671) RQ1 := by
  refine E_al rfl L1 ?_
  refine E_alr rfl L0 ?_
  refine E_il rfl L3 ?_
  refine E_ci 1 rfl ci1 ?_
  refine E_bin rfl (nJ_add _ _) ?_
  refine E_sld rfl (by omega) hL ?_
  refine E_alr rfl L0 ?_
  refine E_il rfl L3 ?_
  refine E_ci 2 rfl ci2 ?_
  refine E_bin rfl (nJ_add _ _) ?_
  refine E_sld rfl (by omega) hL ?_
  refine E_call rfl (tQ_int (by decide +kernel) (by decide +kernel) I.2 (top_int (as := [.ref 0, .int (xs ((i + 1))), .int (xs ((i + 2)))]) q495 (by decide +kernel) (by decide +kernel) I.1 ⟨rfl, aI _, aI _, trivial⟩)) (chkR (a := 0) I.1.1 rfl rfl rfl rfl (by show 0 ≤ 8; decide)) (fun h1 r1 => ?_)
  rintro ⟨I1, x1, f1⟩
  rw [f1]
  show Ends _ _ (1115, lv, [.int x1], h1, 599897, 7298671) _
  refine E_pop rfl rfl ?_
  refine E_al rfl L2 ?_
  refine E_alr rfl L0 ?_
  refine E_il rfl L3 ?_
  refine E_ci 1 rfl ci1 ?_
  refine E_bin rfl (nJ_add _ _) ?_
  refine E_sld rfl (by omega) hL ?_
  refine E_alr rfl L0 ?_
  refine E_il rfl L3 ?_
  refine E_ci 2 rfl ci2 ?_
  refine E_bin rfl (nJ_add _ _) ?_
  refine E_sld rfl (by omega) hL ?_
  refine E_call rfl (tQ_int (by decide +kernel) (by decide +kernel) I1.2 (top_TQ (d := 30) rfl I1.1 (tp_regain (d := 0) I1.1.1 (I1.1.2.2.1 0 (by omega))))) (chkR (a := 77) I1.1.1 rfl rfl rfl rfl (by show 0 ≤ 8; decide)) (fun h2 r2 => ?_)
  rintro ⟨I2, x2, f2⟩
  rw [f2]
  show Ends _ _ (1130, lv, [.int x2], h2, 599897, 7298671) _
  refine E_pop rfl rfl ?_
  refine E_goto rfl ?_
  exact K _ I2
set_option maxRecDepth 20000 in
theorem bl_36 {L : Nat} {xs : Nat → Int32} (hL : L ≤ 3072) {h : pm_H} {i : Nat} (hi : i + 6 ≤ L) (lv : List (Nat × Value)) (I : IVQ h) (L0 : pm_get lv 0 = some (.retAddr 0)) (L1 : pm_get lv 1 = some (.ref 0)) (L2 : pm_get lv 2 = some (.ref 77)) (L3 : pm_get lv 3 = some (.int (nJ i))) (K : ∀ h', IVQ h' → Ends (pm_tr (lb_all L xs)) (pm_Rt pm_P 100) (2392, lv, [], h', 599897, 7298671) RQ1) : Ends (pm_tr (lb_all L xs)) (pm_Rt pm_P 100) (1134, lv, [], h, 599897, 7298671) RQ1 := by
  refine E_al rfl L1 ?_
  refine E_alr rfl L0 ?_
  refine E_il rfl L3 ?_
  refine E_ci 1 rfl ci1 ?_
  refine E_bin rfl (nJ_add _ _) ?_
  refine E_sld rfl (by omega) hL ?_
  refine E_call rfl (tQ_int (by decide +kernel) (by decide +kernel) I.2 (top_int (as := [.ref 0, .int (xs ((i + 1)))]) q496 (by decide +kernel) (by decide +kernel) I.1 ⟨rfl, aI _, trivial⟩)) (chkR (a := 0) I.1.1 rfl rfl rfl rfl (by show 0 ≤ 8; decide)) (fun h1 r1 => ?_)
  rintro ⟨I1, x1, f1⟩
  rw [f1]
  show Ends _ _ (1143, lv, [.int x1], h1, 599897, 7298671) _
  refine E_pop rfl rfl ?_
  refine E_al rfl L2 ?_
  refine E_alr rfl L0 ?_
  refine E_il rfl L3 ?_
  refine E_ci 1 rfl ci1 ?_
  refine E_bin rfl (nJ_add _ _) ?_
  refine E_sld rfl (by omega) hL ?_
  refine E_call rfl (tQ_int (by decide +kernel) (by decide +kernel) I1.2 (top_TQ (d := 30) rfl I1.1 (tp_upset (d := 0) I1.1.1 (I1.1.2.2.1 0 (by omega))))) (chkR (a := 77) I1.1.1 rfl rfl rfl rfl (by show 0 ≤ 8; decide)) (fun h2 r2 => ?_)
  rintro ⟨I2, x2, f2⟩
  rw [f2]
  show Ends _ _ (1153, lv, [.int x2], h2, 599897, 7298671) _
  refine E_pop rfl rfl ?_
  refine E_goto rfl ?_
  exact K _ I2
set_option maxRecDepth 20000 in
theorem bl_37 {L : Nat} {xs : Nat → Int32} (hL : L ≤ 3072) {h : pm_H} {i : Nat} (hi : i + 6 ≤ L) (lv : List (Nat × Value)) (I : IVQ h) (L0 : pm_get lv 0 = some (.retAddr 0)) (L1 : pm_get lv 1 = some (.ref 0)) (L2 : pm_get lv 2 = some (.ref 77)) (L3 : pm_get lv 3 = some (.int (nJ i))) (K : ∀ h', IVQ h' → Ends (pm_tr (lb_all L xs)) (pm_Rt pm_P 100) (2392, lv, [], h', 599897, 7298671) RQ1) : Ends (pm_tr (lb_all L xs)) (pm_Rt pm_P 100) (1157, lv, [], h, 599897, 7298671) RQ1 := by
  refine E_al rfl L1 ?_
  refine E_alr rfl L0 ?_
  refine E_il rfl L3 ?_
  refine E_ci 1 rfl ci1 ?_
  refine E_bin rfl (nJ_add _ _) ?_
  refine E_sld rfl (by omega) hL ?_
  refine E_call rfl (tQ_int (by decide +kernel) (by decide +kernel) I.2 (top_int (as := [.ref 0, .int (xs ((i + 1)))]) q499 (by decide +kernel) (by decide +kernel) I.1 ⟨rfl, aI _, trivial⟩)) (chkR (a := 0) I.1.1 rfl rfl rfl rfl (by show 0 ≤ 8; decide)) (fun h1 r1 => ?_)
  rintro ⟨I1, x1, f1⟩
  rw [f1]
  show Ends _ _ (1166, lv, [.int x1], h1, 599897, 7298671) _
  refine E_pop rfl rfl ?_
  refine E_al rfl L2 ?_
  refine E_alr rfl L0 ?_
  refine E_il rfl L3 ?_
  refine E_ci 1 rfl ci1 ?_
  refine E_bin rfl (nJ_add _ _) ?_
  refine E_sld rfl (by omega) hL ?_
  refine E_call rfl (tQ_int (by decide +kernel) (by decide +kernel) I1.2 (top_int (as := [.ref 77, .int (xs ((i + 1)))]) q504 (by decide +kernel) (by decide +kernel) I1.1 ⟨rfl, aI _, trivial⟩)) (chkR (a := 77) I1.1.1 rfl rfl rfl rfl (by show 0 ≤ 8; decide)) (fun h2 r2 => ?_)
  rintro ⟨I2, x2, f2⟩
  rw [f2]
  show Ends _ _ (1176, lv, [.int x2], h2, 599897, 7298671) _
  refine E_pop rfl rfl ?_
  refine E_goto rfl ?_
  exact K _ I2
set_option maxRecDepth 20000 in
theorem bl_38 {L : Nat} {xs : Nat → Int32} (hL : L ≤ 3072) {h : pm_H} {i : Nat} (hi : i + 6 ≤ L) (lv : List (Nat × Value)) (I : IVQ h) (L0 : pm_get lv 0 = some (.retAddr 0)) (L1 : pm_get lv 1 = some (.ref 0)) (L2 : pm_get lv 2 = some (.ref 77)) (L3 : pm_get lv 3 = some (.int (nJ i))) (K : ∀ h', IVQ h' → Ends (pm_tr (lb_all L xs)) (pm_Rt pm_P 100) (2392, lv, [], h', 599897, 7298671) RQ1) : Ends (pm_tr (lb_all L xs)) (pm_Rt pm_P 100) (1180, lv, [], h, 599897, 7298671) RQ1 := by
  refine E_al rfl L1 ?_
  refine E_alr rfl L0 ?_
  refine E_il rfl L3 ?_
  refine E_ci 1 rfl ci1 ?_
  refine E_bin rfl (nJ_add _ _) ?_
  refine E_sld rfl (by omega) hL ?_
  refine E_alr rfl L0 ?_
  refine E_il rfl L3 ?_
  refine E_ci 2 rfl ci2 ?_
  refine E_bin rfl (nJ_add _ _) ?_
  refine E_sld rfl (by omega) hL ?_
  refine E_call rfl (tQ_int (by decide +kernel) (by decide +kernel) I.2 (top_int (as := [.ref 0, .int (xs ((i + 1))), .int (xs ((i + 2)))]) q506 (by decide +kernel) (by decide +kernel) I.1 ⟨rfl, aI _, aI _, trivial⟩)) (chkR (a := 0) I.1.1 rfl rfl rfl rfl (by show 0 ≤ 8; decide)) (fun h1 r1 => ?_)
  rintro ⟨I1, x1, f1⟩
  rw [f1]
  show Ends _ _ (1194, lv, [.int x1], h1, 599897, 7298671) _
  refine E_pop rfl rfl ?_
  refine E_al rfl L2 ?_
  refine E_alr rfl L0 ?_
  refine E_il rfl L3 ?_
  refine E_ci 1 rfl ci1 ?_
  refine E_bin rfl (nJ_add _ _) ?_
  refine E_sld rfl (by omega) hL ?_
  refine E_alr rfl L0 ?_
  refine E_il rfl L3 ?_
  refine E_ci 2 rfl ci2 ?_
  refine E_bin rfl (nJ_add _ _) ?_
  refine E_sld rfl (by omega) hL ?_
  refine E_call rfl (tQ_int (by decide +kernel) (by decide +kernel) I1.2 (top_int (as := [.ref 77, .int (xs ((i + 1))), .int (xs ((i + 2)))]) q509 (by decide +kernel) (by decide +kernel) I1.1 ⟨rfl, aI _, aI _, trivial⟩)) (chkR (a := 77) I1.1.1 rfl rfl rfl rfl (by show 0 ≤ 8; decide)) (fun h2 r2 => ?_)
  rintro ⟨I2, x2, f2⟩
  rw [f2]
  show Ends _ _ (1209, lv, [.int x2], h2, 599897, 7298671) _
  refine E_pop rfl rfl ?_
  refine E_goto rfl ?_
  exact K _ I2
set_option maxRecDepth 20000 in
theorem bl_39 {L : Nat} {xs : Nat → Int32} (hL : L ≤ 3072) {h : pm_H} {i : Nat} (hi : i + 6 ≤ L) (lv : List (Nat × Value)) (I : IVQ h) (L0 : pm_get lv 0 = some (.retAddr 0)) (L1 : pm_get lv 1 = some (.ref 0)) (L2 : pm_get lv 2 = some (.ref 77)) (L3 : pm_get lv 3 = some (.int (nJ i))) (K : ∀ h', IVQ h' → Ends (pm_tr (lb_all L xs)) (pm_Rt pm_P 100) (2392, lv, [], h', 599897, 7298671) RQ1) : Ends (pm_tr (lb_all L xs)) (pm_Rt pm_P 100) (1213, lv, [], h, 599897, 7298671) RQ1 := by
  refine E_al rfl L1 ?_
  refine E_alr rfl L0 ?_
  refine E_il rfl L3 ?_
  refine E_ci 1 rfl ci1 ?_
  refine E_bin rfl (nJ_add _ _) ?_
  refine E_sld rfl (by omega) hL ?_
  refine E_alr rfl L0 ?_
  refine E_il rfl L3 ?_
  refine E_ci 2 rfl ci2 ?_
  refine E_bin rfl (nJ_add _ _) ?_
  refine E_sld rfl (by omega) hL ?_
  refine E_call rfl (tQ_int (by decide +kernel) (by decide +kernel) I.2 (top_int (as := [.ref 0, .int (xs ((i + 1))), .int (xs ((i + 2)))]) q510 (by decide +kernel) (by decide +kernel) I.1 ⟨rfl, aI _, aI _, trivial⟩)) (chkR (a := 0) I.1.1 rfl rfl rfl rfl (by show 0 ≤ 8; decide)) (fun h1 r1 => ?_)
  rintro ⟨I1, x1, f1⟩
  rw [f1]
  show Ends _ _ (1227, lv, [.int x1], h1, 599897, 7298671) _
  refine E_pop rfl rfl ?_
  refine E_al rfl L2 ?_
  refine E_alr rfl L0 ?_
  refine E_il rfl L3 ?_
  refine E_ci 1 rfl ci1 ?_
  refine E_bin rfl (nJ_add _ _) ?_
  refine E_sld rfl (by omega) hL ?_
  refine E_alr rfl L0 ?_
  refine E_il rfl L3 ?_
  refine E_ci 2 rfl ci2 ?_
  refine E_bin rfl (nJ_add _ _) ?_
  refine E_sld rfl (by omega) hL ?_
  refine E_call rfl (tQ_int (by decide +kernel) (by decide +kernel) I1.2 (top_TQ (d := 30) rfl I1.1 (tp_trees (d := 0) I1.1.1 (I1.1.2.2.1 0 (by omega))))) (chkR (a := 77) I1.1.1 rfl rfl rfl rfl (by show 0 ≤ 8; decide)) (fun h2 r2 => ?_)
  rintro ⟨I2, x2, f2⟩
  rw [f2]
  show Ends _ _ (1242, lv, [.int x2], h2, 599897, 7298671) _
  refine E_pop rfl rfl ?_
  refine E_goto rfl ?_
  exact K _ I2
set_option maxRecDepth 20000 in
theorem bl_40 {L : Nat} {xs : Nat → Int32} (hL : L ≤ 3072) {h : pm_H} {i : Nat} (hi : i + 6 ≤ L) (lv : List (Nat × Value)) (I : IVQ h) (L0 : pm_get lv 0 = some (.retAddr 0)) (L1 : pm_get lv 1 = some (.ref 0)) (L2 : pm_get lv 2 = some (.ref 77)) (L3 : pm_get lv 3 = some (.int (nJ i))) (K : ∀ h', IVQ h' → Ends (pm_tr (lb_all L xs)) (pm_Rt pm_P 100) (2392, lv, [], h', 599897, 7298671) RQ1) : Ends (pm_tr (lb_all L xs)) (pm_Rt pm_P 100) (1246, lv, [], h, 599897, 7298671) RQ1 := by
  refine E_al rfl L1 ?_
  refine E_alr rfl L0 ?_
  refine E_il rfl L3 ?_
  refine E_ci 1 rfl ci1 ?_
  refine E_bin rfl (nJ_add _ _) ?_
  refine E_sld rfl (by omega) hL ?_
  refine E_alr rfl L0 ?_
  refine E_il rfl L3 ?_
  refine E_ci 2 rfl ci2 ?_
  refine E_bin rfl (nJ_add _ _) ?_
  refine E_sld rfl (by omega) hL ?_
  refine E_call rfl (tQ_int (by decide +kernel) (by decide +kernel) I.2 (top_int (as := [.ref 0, .int (xs ((i + 1))), .int (xs ((i + 2)))]) q512 (by decide +kernel) (by decide +kernel) I.1 ⟨rfl, aI _, aI _, trivial⟩)) (chkR (a := 0) I.1.1 rfl rfl rfl rfl (by show 0 ≤ 8; decide)) (fun h1 r1 => ?_)
  rintro ⟨I1, x1, f1⟩
  rw [f1]
  show Ends _ _ (1260, lv, [.int x1], h1, 599897, 7298671) _
  refine E_pop rfl rfl ?_
  refine E_al rfl L2 ?_
  refine E_alr rfl L0 ?_
  refine E_il rfl L3 ?_
  refine E_ci 1 rfl ci1 ?_
  refine E_bin rfl (nJ_add _ _) ?_
  refine E_sld rfl (by omega) hL ?_
  refine E_alr rfl L0 ?_
  refine E_il rfl L3 ?_
  refine E_ci 2 rfl ci2 ?_
  refine E_bin rfl (nJ_add _ _) ?_
  refine E_sld rfl (by omega) hL ?_
  refine E_call rfl (tQ_int (by decide +kernel) (by decide +kernel) I1.2 (top_int (as := [.ref 77, .int (xs ((i + 1))), .int (xs ((i + 2)))]) q515 (by decide +kernel) (by decide +kernel) I1.1 ⟨rfl, aI _, aI _, trivial⟩)) (chkR (a := 77) I1.1.1 rfl rfl rfl rfl (by show 0 ≤ 8; decide)) (fun h2 r2 => ?_)
  rintro ⟨I2, x2, f2⟩
  rw [f2]
  show Ends _ _ (1275, lv, [.int x2], h2, 599897, 7298671) _
  refine E_pop rfl rfl ?_
  refine E_goto rfl ?_
  exact K _ I2
set_option maxRecDepth 20000 in
theorem bl_41 {L : Nat} {xs : Nat → Int32} (hL : L ≤ 3072) {h : pm_H} {i : Nat} (hi : i + 6 ≤ L) (lv : List (Nat × Value)) (I : IVQ h) (L0 : pm_get lv 0 = some (.retAddr 0)) (L1 : pm_get lv 1 = some (.ref 0)) (L2 : pm_get lv 2 = some (.ref 77)) (L3 : pm_get lv 3 = some (.int (nJ i))) (K : ∀ h', IVQ h' → Ends (pm_tr (lb_all L xs)) (pm_Rt pm_P 100) (2392, lv, [], h', 599897, 7298671) RQ1) : Ends (pm_tr (lb_all L xs)) (pm_Rt pm_P 100) (1279, lv, [], h, 599897, 7298671) RQ1 := by
  refine E_al rfl L1 ?_
  refine E_alr rfl L0 ?_
  refine E_il rfl L3 ?_
  refine E_ci 1 rfl ci1 ?_
  refine E_bin rfl (nJ_add _ _) ?_
  refine E_sld rfl (by omega) hL ?_
  refine E_call rfl (tQ_int (by decide +kernel) (by decide +kernel) I.2 (top_int (as := [.ref 0, .int (xs ((i + 1)))]) q520 (by decide +kernel) (by decide +kernel) I.1 ⟨rfl, aI _, trivial⟩)) (chkR (a := 0) I.1.1 rfl rfl rfl rfl (by show 0 ≤ 8; decide)) (fun h1 r1 => ?_)
  rintro ⟨I1, x1, f1⟩
  rw [f1]
  show Ends _ _ (1288, lv, [.int x1], h1, 599897, 7298671) _
  refine E_pop rfl rfl ?_
  refine E_al rfl L2 ?_
  refine E_alr rfl L0 ?_
  refine E_il rfl L3 ?_
  refine E_ci 1 rfl ci1 ?_
  refine E_bin rfl (nJ_add _ _) ?_
  refine E_sld rfl (by omega) hL ?_
  refine E_call rfl (tQ_int (by decide +kernel) (by decide +kernel) I1.2 (top_int (as := [.ref 77, .int (xs ((i + 1)))]) q528 (by decide +kernel) (by decide +kernel) I1.1 ⟨rfl, aI _, trivial⟩)) (chkR (a := 77) I1.1.1 rfl rfl rfl rfl (by show 0 ≤ 8; decide)) (fun h2 r2 => ?_)
  rintro ⟨I2, x2, f2⟩
  rw [f2]
  show Ends _ _ (1298, lv, [.int x2], h2, 599897, 7298671) _
  refine E_pop rfl rfl ?_
  refine E_goto rfl ?_
  exact K _ I2
set_option maxRecDepth 20000 in
theorem bl_42 {L : Nat} {xs : Nat → Int32} (hL : L ≤ 3072) {h : pm_H} {i : Nat} (hi : i + 6 ≤ L) (lv : List (Nat × Value)) (I : IVQ h) (L0 : pm_get lv 0 = some (.retAddr 0)) (L1 : pm_get lv 1 = some (.ref 0)) (L2 : pm_get lv 2 = some (.ref 77)) (L3 : pm_get lv 3 = some (.int (nJ i))) (K : ∀ h', IVQ h' → Ends (pm_tr (lb_all L xs)) (pm_Rt pm_P 100) (2392, lv, [], h', 599897, 7298671) RQ1) : Ends (pm_tr (lb_all L xs)) (pm_Rt pm_P 100) (1302, lv, [], h, 599897, 7298671) RQ1 := by
  refine E_al rfl L1 ?_
  refine E_alr rfl L0 ?_
  refine E_il rfl L3 ?_
  refine E_ci 1 rfl ci1 ?_
  refine E_bin rfl (nJ_add _ _) ?_
  refine E_sld rfl (by omega) hL ?_
  refine E_call rfl (tQ_int (by decide +kernel) (by decide +kernel) I.2 (top_int (as := [.ref 0, .int (xs ((i + 1)))]) q530 (by decide +kernel) (by decide +kernel) I.1 ⟨rfl, aI _, trivial⟩)) (chkR (a := 0) I.1.1 rfl rfl rfl rfl (by show 0 ≤ 8; decide)) (fun h1 r1 => ?_)
  rintro ⟨I1, x1, f1⟩
  rw [f1]
  show Ends _ _ (1311, lv, [.int x1], h1, 599897, 7298671) _
  refine E_pop rfl rfl ?_
  refine E_al rfl L2 ?_
  refine E_alr rfl L0 ?_
  refine E_il rfl L3 ?_
  refine E_ci 1 rfl ci1 ?_
  refine E_bin rfl (nJ_add _ _) ?_
  refine E_sld rfl (by omega) hL ?_
  refine E_call rfl (tQ_int (by decide +kernel) (by decide +kernel) I1.2 (top_int (as := [.ref 77, .int (xs ((i + 1)))]) q533 (by decide +kernel) (by decide +kernel) I1.1 ⟨rfl, aI _, trivial⟩)) (chkR (a := 77) I1.1.1 rfl rfl rfl rfl (by show 0 ≤ 8; decide)) (fun h2 r2 => ?_)
  rintro ⟨I2, x2, f2⟩
  rw [f2]
  show Ends _ _ (1321, lv, [.int x2], h2, 599897, 7298671) _
  refine E_pop rfl rfl ?_
  refine E_goto rfl ?_
  exact K _ I2
set_option maxRecDepth 20000 in
theorem bl_43 {L : Nat} {xs : Nat → Int32} (hL : L ≤ 3072) {h : pm_H} {i : Nat} (hi : i + 6 ≤ L) (lv : List (Nat × Value)) (I : IVQ h) (L0 : pm_get lv 0 = some (.retAddr 0)) (L1 : pm_get lv 1 = some (.ref 0)) (L2 : pm_get lv 2 = some (.ref 77)) (L3 : pm_get lv 3 = some (.int (nJ i))) (K : ∀ h', IVQ h' → Ends (pm_tr (lb_all L xs)) (pm_Rt pm_P 100) (2392, lv, [], h', 599897, 7298671) RQ1) : Ends (pm_tr (lb_all L xs)) (pm_Rt pm_P 100) (1325, lv, [], h, 599897, 7298671) RQ1 := by
  refine E_al rfl L1 ?_
  refine E_call rfl (tQ_int (by decide +kernel) (by decide +kernel) I.2 (top_int (as := [.ref 0]) q534 (by decide +kernel) (by decide +kernel) I.1 ⟨rfl, trivial⟩)) (chkR (a := 0) I.1.1 rfl rfl rfl rfl (by show 0 ≤ 8; decide)) (fun h1 r1 => ?_)
  rintro ⟨I1, x1, f1⟩
  rw [f1]
  show Ends _ _ (1329, lv, [.int x1], h1, 599897, 7298671) _
  refine E_pop rfl rfl ?_
  refine E_al rfl L2 ?_
  refine E_call rfl (tQ_int (by decide +kernel) (by decide +kernel) I1.2 (top_int (as := [.ref 77]) q537 (by decide +kernel) (by decide +kernel) I1.1 ⟨rfl, trivial⟩)) (chkR (a := 77) I1.1.1 rfl rfl rfl rfl (by show 0 ≤ 8; decide)) (fun h2 r2 => ?_)
  rintro ⟨I2, x2, f2⟩
  rw [f2]
  show Ends _ _ (1334, lv, [.int x2], h2, 599897, 7298671) _
  refine E_pop rfl rfl ?_
  refine E_goto rfl ?_
  exact K _ I2
set_option maxRecDepth 20000 in
theorem bl_44 {L : Nat} {xs : Nat → Int32} (hL : L ≤ 3072) {h : pm_H} {i : Nat} (hi : i + 6 ≤ L) (lv : List (Nat × Value)) (I : IVQ h) (L0 : pm_get lv 0 = some (.retAddr 0)) (L1 : pm_get lv 1 = some (.ref 0)) (L2 : pm_get lv 2 = some (.ref 77)) (L3 : pm_get lv 3 = some (.int (nJ i))) (K : ∀ h', IVQ h' → Ends (pm_tr (lb_all L xs)) (pm_Rt pm_P 100) (2392, lv, [], h', 599897, 7298671) RQ1) : Ends (pm_tr (lb_all L xs)) (pm_Rt pm_P 100) (1338, lv, [], h, 599897, 7298671) RQ1 := by
  refine E_al rfl L1 ?_
  refine E_alr rfl L0 ?_
  refine E_il rfl L3 ?_
  refine E_ci 1 rfl ci1 ?_
  refine E_bin rfl (nJ_add _ _) ?_
  refine E_sld rfl (by omega) hL ?_
  refine E_call rfl (tQ_int (by decide +kernel) (by decide +kernel) I.2 (top_int (as := [.ref 0, .int (xs ((i + 1)))]) q540 (by decide +kernel) (by decide +kernel) I.1 ⟨rfl, aI _, trivial⟩)) (chkR (a := 0) I.1.1 rfl rfl rfl rfl (by show 0 ≤ 8; decide)) (fun h1 r1 => ?_)
  rintro ⟨I1, x1, f1⟩
  rw [f1]
  show Ends _ _ (1347, lv, [.int x1], h1, 599897, 7298671) _
  refine E_pop rfl rfl ?_
  refine E_al rfl L2 ?_
  refine E_alr rfl L0 ?_
  refine E_il rfl L3 ?_
  refine E_ci 1 rfl ci1 ?_
  refine E_bin rfl (nJ_add _ _) ?_
  refine E_sld rfl (by omega) hL ?_
  refine E_call rfl (tQ_int (by decide +kernel) (by decide +kernel) I1.2 (top_int (as := [.ref 77, .int (xs ((i + 1)))]) q544 (by decide +kernel) (by decide +kernel) I1.1 ⟨rfl, aI _, trivial⟩)) (chkR (a := 77) I1.1.1 rfl rfl rfl rfl (by show 0 ≤ 8; decide)) (fun h2 r2 => ?_)
  rintro ⟨I2, x2, f2⟩
  rw [f2]
  show Ends _ _ (1357, lv, [.int x2], h2, 599897, 7298671) _
  refine E_pop rfl rfl ?_
  refine E_goto rfl ?_
  exact K _ I2
set_option maxRecDepth 20000 in
theorem bl_45 {L : Nat} {xs : Nat → Int32} (hL : L ≤ 3072) {h : pm_H} {i : Nat} (hi : i + 6 ≤ L) (lv : List (Nat × Value)) (I : IVQ h) (L0 : pm_get lv 0 = some (.retAddr 0)) (L1 : pm_get lv 1 = some (.ref 0)) (L2 : pm_get lv 2 = some (.ref 77)) (L3 : pm_get lv 3 = some (.int (nJ i))) (K : ∀ h', IVQ h' → Ends (pm_tr (lb_all L xs)) (pm_Rt pm_P 100) (2392, lv, [], h', 599897, 7298671) RQ1) : Ends (pm_tr (lb_all L xs)) (pm_Rt pm_P 100) (1361, lv, [], h, 599897, 7298671) RQ1 := by
  refine E_al rfl L1 ?_
  refine E_call rfl (tQ_int (by decide +kernel) (by decide +kernel) I.2 (top_int (as := [.ref 0]) q550 (by decide +kernel) (by decide +kernel) I.1 ⟨rfl, trivial⟩)) (chkR (a := 0) I.1.1 rfl rfl rfl rfl (by show 0 ≤ 8; decide)) (fun h1 r1 => ?_)
  rintro ⟨I1, x1, f1⟩
  rw [f1]
  show Ends _ _ (1365, lv, [.int x1], h1, 599897, 7298671) _
  refine E_pop rfl rfl ?_
  refine E_al rfl L2 ?_
  refine E_call rfl (tQ_int (by decide +kernel) (by decide +kernel) I1.2 (top_int (as := [.ref 77]) q556 (by decide +kernel) (by decide +kernel) I1.1 ⟨rfl, trivial⟩)) (chkR (a := 77) I1.1.1 rfl rfl rfl rfl (by show 0 ≤ 8; decide)) (fun h2 r2 => ?_)
  rintro ⟨I2, x2, f2⟩
  rw [f2]
  show Ends _ _ (1370, lv, [.int x2], h2, 599897, 7298671) _
  refine E_pop rfl rfl ?_
  refine E_goto rfl ?_
  exact K _ I2
set_option maxRecDepth 20000 in
theorem bl_46 {L : Nat} {xs : Nat → Int32} (hL : L ≤ 3072) {h : pm_H} {i : Nat} (hi : i + 6 ≤ L) (lv : List (Nat × Value)) (I : IVQ h) (L0 : pm_get lv 0 = some (.retAddr 0)) (L1 : pm_get lv 1 = some (.ref 0)) (L2 : pm_get lv 2 = some (.ref 77)) (L3 : pm_get lv 3 = some (.int (nJ i))) (K : ∀ h', IVQ h' → Ends (pm_tr (lb_all L xs)) (pm_Rt pm_P 100) (2392, lv, [], h', 599897, 7298671) RQ1) : Ends (pm_tr (lb_all L xs)) (pm_Rt pm_P 100) (1374, lv, [], h, 599897, 7298671) RQ1 := by
  refine E_al rfl L1 ?_
  refine E_alr rfl L0 ?_
  refine E_il rfl L3 ?_
  refine E_ci 1 rfl ci1 ?_
  refine E_bin rfl (nJ_add _ _) ?_
  refine E_sld rfl (by omega) hL ?_
  refine E_alr rfl L0 ?_
  refine E_il rfl L3 ?_
  refine E_ci 2 rfl ci2 ?_
  refine E_bin rfl (nJ_add _ _) ?_
  refine E_sld rfl (by omega) hL ?_
  refine E_call rfl (tQ_int (by decide +kernel) (by decide +kernel) I.2 (top_int (as := [.ref 0, .int (xs ((i + 1))), .int (xs ((i + 2)))]) q558 (by decide +kernel) (by decide +kernel) I.1 ⟨rfl, aI _, aI _, trivial⟩)) (chkR (a := 0) I.1.1 rfl rfl rfl rfl (by show 0 ≤ 8; decide)) (fun h1 r1 => ?_)
  rintro ⟨I1, x1, f1⟩
  rw [f1]
  show Ends _ _ (1388, lv, [.int x1], h1, 599897, 7298671) _
  refine E_pop rfl rfl ?_
  refine E_al rfl L2 ?_
  refine E_alr rfl L0 ?_
  refine E_il rfl L3 ?_
  refine E_ci 1 rfl ci1 ?_
  refine E_bin rfl (nJ_add _ _) ?_
  refine E_sld rfl (by omega) hL ?_
  refine E_alr rfl L0 ?_
  refine E_il rfl L3 ?_
  refine E_ci 2 rfl ci2 ?_
  refine E_bin rfl (nJ_add _ _) ?_
  refine E_sld rfl (by omega) hL ?_
  refine E_call rfl (tQ_int (by decide +kernel) (by decide +kernel) I1.2 (top_int (as := [.ref 77, .int (xs ((i + 1))), .int (xs ((i + 2)))]) q564 (by decide +kernel) (by decide +kernel) I1.1 ⟨rfl, aI _, aI _, trivial⟩)) (chkR (a := 77) I1.1.1 rfl rfl rfl rfl (by show 0 ≤ 8; decide)) (fun h2 r2 => ?_)
  rintro ⟨I2, x2, f2⟩
  rw [f2]
  show Ends _ _ (1403, lv, [.int x2], h2, 599897, 7298671) _
  refine E_pop rfl rfl ?_
  refine E_goto rfl ?_
  exact K _ I2
set_option maxRecDepth 20000 in
theorem bl_47 {L : Nat} {xs : Nat → Int32} (hL : L ≤ 3072) {h : pm_H} {i : Nat} (hi : i + 6 ≤ L) (lv : List (Nat × Value)) (I : IVQ h) (L0 : pm_get lv 0 = some (.retAddr 0)) (L1 : pm_get lv 1 = some (.ref 0)) (L2 : pm_get lv 2 = some (.ref 77)) (L3 : pm_get lv 3 = some (.int (nJ i))) (K : ∀ h', IVQ h' → Ends (pm_tr (lb_all L xs)) (pm_Rt pm_P 100) (2392, lv, [], h', 599897, 7298671) RQ1) : Ends (pm_tr (lb_all L xs)) (pm_Rt pm_P 100) (1407, lv, [], h, 599897, 7298671) RQ1 := by
  refine E_al rfl L1 ?_
  refine E_alr rfl L0 ?_
  refine E_il rfl L3 ?_
  refine E_ci 1 rfl ci1 ?_
  refine E_bin rfl (nJ_add _ _) ?_
  refine E_sld rfl (by omega) hL ?_
  refine E_alr rfl L0 ?_
  refine E_il rfl L3 ?_
  refine E_ci 2 rfl ci2 ?_
  refine E_bin rfl (nJ_add _ _) ?_
  refine E_sld rfl (by omega) hL ?_
  refine E_call rfl (tQ_int (by decide +kernel) (by decide +kernel) I.2 (top_int (as := [.ref 0, .int (xs ((i + 1))), .int (xs ((i + 2)))]) q566 (by decide +kernel) (by decide +kernel) I.1 ⟨rfl, aI _, aI _, trivial⟩)) (chkR (a := 0) I.1.1 rfl rfl rfl rfl (by show 0 ≤ 8; decide)) (fun h1 r1 => ?_)
  rintro ⟨I1, x1, f1⟩
  rw [f1]
  show Ends _ _ (1421, lv, [.int x1], h1, 599897, 7298671) _
  refine E_pop rfl rfl ?_
  refine E_al rfl L2 ?_
  refine E_alr rfl L0 ?_
  refine E_il rfl L3 ?_
  refine E_ci 1 rfl ci1 ?_
  refine E_bin rfl (nJ_add _ _) ?_
  refine E_sld rfl (by omega) hL ?_
  refine E_alr rfl L0 ?_
  refine E_il rfl L3 ?_
  refine E_ci 2 rfl ci2 ?_
  refine E_bin rfl (nJ_add _ _) ?_
  refine E_sld rfl (by omega) hL ?_
  refine E_call rfl (tQ_int (by decide +kernel) (by decide +kernel) I1.2 (top_int (as := [.ref 77, .int (xs ((i + 1))), .int (xs ((i + 2)))]) q568 (by decide +kernel) (by decide +kernel) I1.1 ⟨rfl, aI _, aI _, trivial⟩)) (chkR (a := 77) I1.1.1 rfl rfl rfl rfl (by show 0 ≤ 8; decide)) (fun h2 r2 => ?_)
  rintro ⟨I2, x2, f2⟩
  rw [f2]
  show Ends _ _ (1436, lv, [.int x2], h2, 599897, 7298671) _
  refine E_pop rfl rfl ?_
  refine E_goto rfl ?_
  exact K _ I2
set_option maxRecDepth 20000 in
theorem bl_48 {L : Nat} {xs : Nat → Int32} (hL : L ≤ 3072) {h : pm_H} {i : Nat} (hi : i + 6 ≤ L) (lv : List (Nat × Value)) (I : IVQ h) (L0 : pm_get lv 0 = some (.retAddr 0)) (L1 : pm_get lv 1 = some (.ref 0)) (L2 : pm_get lv 2 = some (.ref 77)) (L3 : pm_get lv 3 = some (.int (nJ i))) (K : ∀ h', IVQ h' → Ends (pm_tr (lb_all L xs)) (pm_Rt pm_P 100) (2392, lv, [], h', 599897, 7298671) RQ1) : Ends (pm_tr (lb_all L xs)) (pm_Rt pm_P 100) (1440, lv, [], h, 599897, 7298671) RQ1 := by
  refine E_al rfl L1 ?_
  refine E_call rfl (tQ_int (by decide +kernel) (by decide +kernel) I.2 (top_int (as := [.ref 0]) q576 (by decide +kernel) (by decide +kernel) I.1 ⟨rfl, trivial⟩)) (chkR (a := 0) I.1.1 rfl rfl rfl rfl (by show 0 ≤ 8; decide)) (fun h1 r1 => ?_)
  rintro ⟨I1, x1, f1⟩
  rw [f1]
  show Ends _ _ (1444, lv, [.int x1], h1, 599897, 7298671) _
  refine E_pop rfl rfl ?_
  refine E_al rfl L2 ?_
  refine E_call rfl (tQ_int (by decide +kernel) (by decide +kernel) I1.2 (top_int (as := [.ref 77]) q577 (by decide +kernel) (by decide +kernel) I1.1 ⟨rfl, trivial⟩)) (chkR (a := 77) I1.1.1 rfl rfl rfl rfl (by show 0 ≤ 8; decide)) (fun h2 r2 => ?_)
  rintro ⟨I2, x2, f2⟩
  rw [f2]
  show Ends _ _ (1449, lv, [.int x2], h2, 599897, 7298671) _
  refine E_pop rfl rfl ?_
  refine E_goto rfl ?_
  exact K _ I2
set_option maxRecDepth 20000 in
theorem bl_49 {L : Nat} {xs : Nat → Int32} (hL : L ≤ 3072) {h : pm_H} {i : Nat} (hi : i + 6 ≤ L) (lv : List (Nat × Value)) (I : IVQ h) (L0 : pm_get lv 0 = some (.retAddr 0)) (L1 : pm_get lv 1 = some (.ref 0)) (L2 : pm_get lv 2 = some (.ref 77)) (L3 : pm_get lv 3 = some (.int (nJ i))) (K : ∀ h', IVQ h' → Ends (pm_tr (lb_all L xs)) (pm_Rt pm_P 100) (2392, lv, [], h', 599897, 7298671) RQ1) : Ends (pm_tr (lb_all L xs)) (pm_Rt pm_P 100) (1453, lv, [], h, 599897, 7298671) RQ1 := by
  refine E_al rfl L1 ?_
  refine E_alr rfl L0 ?_
  refine E_il rfl L3 ?_
  refine E_ci 1 rfl ci1 ?_
  refine E_bin rfl (nJ_add _ _) ?_
  refine E_sld rfl (by omega) hL ?_
  refine E_call rfl (tQ_int (by decide +kernel) (by decide +kernel) I.2 (top_int (as := [.ref 0, .int (xs ((i + 1)))]) q580 (by decide +kernel) (by decide +kernel) I.1 ⟨rfl, aI _, trivial⟩)) (chkR (a := 0) I.1.1 rfl rfl rfl rfl (by show 0 ≤ 8; decide)) (fun h1 r1 => ?_)
  rintro ⟨I1, x1, f1⟩
  rw [f1]
  show Ends _ _ (1462, lv, [.int x1], h1, 599897, 7298671) _
  refine E_pop rfl rfl ?_
  refine E_al rfl L2 ?_
  refine E_alr rfl L0 ?_
  refine E_il rfl L3 ?_
  refine E_ci 1 rfl ci1 ?_
  refine E_bin rfl (nJ_add _ _) ?_
  refine E_sld rfl (by omega) hL ?_
  refine E_call rfl (tQ_int (by decide +kernel) (by decide +kernel) I1.2 (top_int (as := [.ref 77, .int (xs ((i + 1)))]) q585 (by decide +kernel) (by decide +kernel) I1.1 ⟨rfl, aI _, trivial⟩)) (chkR (a := 77) I1.1.1 rfl rfl rfl rfl (by show 0 ≤ 8; decide)) (fun h2 r2 => ?_)
  rintro ⟨I2, x2, f2⟩
  rw [f2]
  show Ends _ _ (1472, lv, [.int x2], h2, 599897, 7298671) _
  refine E_pop rfl rfl ?_
  refine E_goto rfl ?_
  exact K _ I2
set_option maxRecDepth 20000 in
theorem bl_50 {L : Nat} {xs : Nat → Int32} (hL : L ≤ 3072) {h : pm_H} {i : Nat} (hi : i + 6 ≤ L) (lv : List (Nat × Value)) (I : IVQ h) (L0 : pm_get lv 0 = some (.retAddr 0)) (L1 : pm_get lv 1 = some (.ref 0)) (L2 : pm_get lv 2 = some (.ref 77)) (L3 : pm_get lv 3 = some (.int (nJ i))) (K : ∀ h', IVQ h' → Ends (pm_tr (lb_all L xs)) (pm_Rt pm_P 100) (2392, lv, [], h', 599897, 7298671) RQ1) : Ends (pm_tr (lb_all L xs)) (pm_Rt pm_P 100) (1476, lv, [], h, 599897, 7298671) RQ1 := by
  refine E_al rfl L1 ?_
  refine E_alr rfl L0 ?_
  refine E_il rfl L3 ?_
  refine E_ci 1 rfl ci1 ?_
  refine E_bin rfl (nJ_add _ _) ?_
  refine E_sld rfl (by omega) hL ?_
  refine E_alr rfl L0 ?_
  refine E_il rfl L3 ?_
  refine E_ci 2 rfl ci2 ?_
  refine E_bin rfl (nJ_add _ _) ?_
  refine E_sld rfl (by omega) hL ?_
  refine E_call rfl (tQ_int (by decide +kernel) (by decide +kernel) I.2 (top_int (as := [.ref 0, .int (xs ((i + 1))), .int (xs ((i + 2)))]) q593 (by decide +kernel) (by decide +kernel) I.1 ⟨rfl, aI _, aI _, trivial⟩)) (chkR (a := 0) I.1.1 rfl rfl rfl rfl (by show 0 ≤ 8; decide)) (fun h1 r1 => ?_)
  rintro ⟨I1, x1, f1⟩
  rw [f1]
  show Ends _ _ (1490, lv, [.int x1], h1, 599897, 7298671) _
  refine E_pop rfl rfl ?_
  refine E_al rfl L2 ?_
  refine E_alr rfl L0 ?_
  refine E_il rfl L3 ?_
  refine E_ci 1 rfl ci1 ?_
  refine E_bin rfl (nJ_add _ _) ?_
  refine E_sld rfl (by omega) hL ?_
  refine E_alr rfl L0 ?_
  refine E_il rfl L3 ?_
  refine E_ci 2 rfl ci2 ?_
  refine E_bin rfl (nJ_add _ _) ?_
  refine E_sld rfl (by omega) hL ?_
  refine E_call rfl (tQ_int (by decide +kernel) (by decide +kernel) I1.2 (top_int (as := [.ref 77, .int (xs ((i + 1))), .int (xs ((i + 2)))]) q595 (by decide +kernel) (by decide +kernel) I1.1 ⟨rfl, aI _, aI _, trivial⟩)) (chkR (a := 77) I1.1.1 rfl rfl rfl rfl (by show 0 ≤ 8; decide)) (fun h2 r2 => ?_)
  rintro ⟨I2, x2, f2⟩
  rw [f2]
  show Ends _ _ (1505, lv, [.int x2], h2, 599897, 7298671) _
  refine E_pop rfl rfl ?_
  refine E_goto rfl ?_
  exact K _ I2
set_option maxRecDepth 20000 in
theorem bl_51 {L : Nat} {xs : Nat → Int32} (hL : L ≤ 3072) {h : pm_H} {i : Nat} (hi : i + 6 ≤ L) (lv : List (Nat × Value)) (I : IVQ h) (L0 : pm_get lv 0 = some (.retAddr 0)) (L1 : pm_get lv 1 = some (.ref 0)) (L2 : pm_get lv 2 = some (.ref 77)) (L3 : pm_get lv 3 = some (.int (nJ i))) (K : ∀ h', IVQ h' → Ends (pm_tr (lb_all L xs)) (pm_Rt pm_P 100) (2392, lv, [], h', 599897, 7298671) RQ1) : Ends (pm_tr (lb_all L xs)) (pm_Rt pm_P 100) (1509, lv, [], h, 599897, 7298671) RQ1 := by
  refine E_al rfl L1 ?_
  refine E_call rfl (tQ_int (by decide +kernel) (by decide +kernel) I.2 (top_int (as := [.ref 0]) q599 (by decide +kernel) (by decide +kernel) I.1 ⟨rfl, trivial⟩)) (chkR (a := 0) I.1.1 rfl rfl rfl rfl (by show 0 ≤ 8; decide)) (fun h1 r1 => ?_)
  rintro ⟨I1, x1, f1⟩
  rw [f1]
  show Ends _ _ (1513, lv, [.int x1], h1, 599897, 7298671) _
  refine E_pop rfl rfl ?_
  refine E_al rfl L2 ?_
  refine E_call rfl (tQ_int (by decide +kernel) (by decide +kernel) I1.2 (top_int (as := [.ref 77]) q602 (by decide +kernel) (by decide +kernel) I1.1 ⟨rfl, trivial⟩)) (chkR (a := 77) I1.1.1 rfl rfl rfl rfl (by show 0 ≤ 8; decide)) (fun h2 r2 => ?_)
  rintro ⟨I2, x2, f2⟩
  rw [f2]
  show Ends _ _ (1518, lv, [.int x2], h2, 599897, 7298671) _
  refine E_pop rfl rfl ?_
  refine E_goto rfl ?_
  exact K _ I2
set_option maxRecDepth 20000 in
theorem bl_52 {L : Nat} {xs : Nat → Int32} (hL : L ≤ 3072) {h : pm_H} {i : Nat} (hi : i + 6 ≤ L) (lv : List (Nat × Value)) (I : IVQ h) (L0 : pm_get lv 0 = some (.retAddr 0)) (L1 : pm_get lv 1 = some (.ref 0)) (L2 : pm_get lv 2 = some (.ref 77)) (L3 : pm_get lv 3 = some (.int (nJ i))) (K : ∀ h', IVQ h' → Ends (pm_tr (lb_all L xs)) (pm_Rt pm_P 100) (2392, lv, [], h', 599897, 7298671) RQ1) : Ends (pm_tr (lb_all L xs)) (pm_Rt pm_P 100) (1522, lv, [], h, 599897, 7298671) RQ1 := by
  refine E_al rfl L1 ?_
  refine E_call rfl (tQ_int (by decide +kernel) (by decide +kernel) I.2 (top_int (as := [.ref 0]) q603 (by decide +kernel) (by decide +kernel) I.1 ⟨rfl, trivial⟩)) (chkR (a := 0) I.1.1 rfl rfl rfl rfl (by show 0 ≤ 8; decide)) (fun h1 r1 => ?_)
  rintro ⟨I1, x1, f1⟩
  rw [f1]
  show Ends _ _ (1526, lv, [.int x1], h1, 599897, 7298671) _
  refine E_pop rfl rfl ?_
  refine E_al rfl L2 ?_
  refine E_call rfl (tQ_int (by decide +kernel) (by decide +kernel) I1.2 (top_int (as := [.ref 77]) q604 (by decide +kernel) (by decide +kernel) I1.1 ⟨rfl, trivial⟩)) (chkR (a := 77) I1.1.1 rfl rfl rfl rfl (by show 0 ≤ 8; decide)) (fun h2 r2 => ?_)
  rintro ⟨I2, x2, f2⟩
  rw [f2]
  show Ends _ _ (1531, lv, [.int x2], h2, 599897, 7298671) _
  refine E_pop rfl rfl ?_
  refine E_goto rfl ?_
  exact K _ I2
set_option maxRecDepth 20000 in
theorem bl_53 {L : Nat} {xs : Nat → Int32} (hL : L ≤ 3072) {h : pm_H} {i : Nat} (hi : i + 6 ≤ L) (lv : List (Nat × Value)) (I : IVQ h) (L0 : pm_get lv 0 = some (.retAddr 0)) (L1 : pm_get lv 1 = some (.ref 0)) (L2 : pm_get lv 2 = some (.ref 77)) (L3 : pm_get lv 3 = some (.int (nJ i))) (K : ∀ h', IVQ h' → Ends (pm_tr (lb_all L xs)) (pm_Rt pm_P 100) (2392, lv, [], h', 599897, 7298671) RQ1) : Ends (pm_tr (lb_all L xs)) (pm_Rt pm_P 100) (1535, lv, [], h, 599897, 7298671) RQ1 := by
  refine E_al rfl L1 ?_
  refine E_call rfl (tQ_int (by decide +kernel) (by decide +kernel) I.2 (top_int (as := [.ref 0]) q605 (by decide +kernel) (by decide +kernel) I.1 ⟨rfl, trivial⟩)) (chkR (a := 0) I.1.1 rfl rfl rfl rfl (by show 0 ≤ 8; decide)) (fun h1 r1 => ?_)
  rintro ⟨I1, x1, f1⟩
  rw [f1]
  show Ends _ _ (1539, lv, [.int x1], h1, 599897, 7298671) _
  refine E_pop rfl rfl ?_
  refine E_al rfl L2 ?_
  refine E_call rfl (tQ_int (by decide +kernel) (by decide +kernel) I1.2 (top_int (as := [.ref 77]) q606 (by decide +kernel) (by decide +kernel) I1.1 ⟨rfl, trivial⟩)) (chkR (a := 77) I1.1.1 rfl rfl rfl rfl (by show 0 ≤ 8; decide)) (fun h2 r2 => ?_)
  rintro ⟨I2, x2, f2⟩
  rw [f2]
  show Ends _ _ (1544, lv, [.int x2], h2, 599897, 7298671) _
  refine E_pop rfl rfl ?_
  refine E_goto rfl ?_
  exact K _ I2
set_option maxRecDepth 20000 in
theorem bl_54 {L : Nat} {xs : Nat → Int32} (hL : L ≤ 3072) {h : pm_H} {i : Nat} (hi : i + 6 ≤ L) (lv : List (Nat × Value)) (I : IVQ h) (L0 : pm_get lv 0 = some (.retAddr 0)) (L1 : pm_get lv 1 = some (.ref 0)) (L2 : pm_get lv 2 = some (.ref 77)) (L3 : pm_get lv 3 = some (.int (nJ i))) (K : ∀ h', IVQ h' → Ends (pm_tr (lb_all L xs)) (pm_Rt pm_P 100) (2392, lv, [], h', 599897, 7298671) RQ1) : Ends (pm_tr (lb_all L xs)) (pm_Rt pm_P 100) (1548, lv, [], h, 599897, 7298671) RQ1 := by
  refine E_al rfl L1 ?_
  refine E_call rfl (tQ_int (by decide +kernel) (by decide +kernel) I.2 (top_int (as := [.ref 0]) q615 (by decide +kernel) (by decide +kernel) I.1 ⟨rfl, trivial⟩)) (chkR (a := 0) I.1.1 rfl rfl rfl rfl (by show 0 ≤ 8; decide)) (fun h1 r1 => ?_)
  rintro ⟨I1, x1, f1⟩
  rw [f1]
  show Ends _ _ (1552, lv, [.int x1], h1, 599897, 7298671) _
  refine E_pop rfl rfl ?_
  refine E_al rfl L2 ?_
  refine E_call rfl (tQ_int (by decide +kernel) (by decide +kernel) I1.2 (top_int (as := [.ref 77]) q619 (by decide +kernel) (by decide +kernel) I1.1 ⟨rfl, trivial⟩)) (chkR (a := 77) I1.1.1 rfl rfl rfl rfl (by show 0 ≤ 8; decide)) (fun h2 r2 => ?_)
  rintro ⟨I2, x2, f2⟩
  rw [f2]
  show Ends _ _ (1557, lv, [.int x2], h2, 599897, 7298671) _
  refine E_pop rfl rfl ?_
  refine E_goto rfl ?_
  exact K _ I2
set_option maxRecDepth 20000 in
theorem bl_55 {L : Nat} {xs : Nat → Int32} (hL : L ≤ 3072) {h : pm_H} {i : Nat} (hi : i + 6 ≤ L) (lv : List (Nat × Value)) (I : IVQ h) (L0 : pm_get lv 0 = some (.retAddr 0)) (L1 : pm_get lv 1 = some (.ref 0)) (L2 : pm_get lv 2 = some (.ref 77)) (L3 : pm_get lv 3 = some (.int (nJ i))) (K : ∀ h', IVQ h' → Ends (pm_tr (lb_all L xs)) (pm_Rt pm_P 100) (2392, lv, [], h', 599897, 7298671) RQ1) : Ends (pm_tr (lb_all L xs)) (pm_Rt pm_P 100) (1561, lv, [], h, 599897, 7298671) RQ1 := by
  refine E_al rfl L1 ?_
  refine E_call rfl (tQ_int (by decide +kernel) (by decide +kernel) I.2 (top_int (as := [.ref 0]) q621 (by decide +kernel) (by decide +kernel) I.1 ⟨rfl, trivial⟩)) (chkR (a := 0) I.1.1 rfl rfl rfl rfl (by show 0 ≤ 8; decide)) (fun h1 r1 => ?_)
  rintro ⟨I1, x1, f1⟩
  rw [f1]
  show Ends _ _ (1565, lv, [.int x1], h1, 599897, 7298671) _
  refine E_pop rfl rfl ?_
  refine E_al rfl L2 ?_
  refine E_call rfl (tQ_int (by decide +kernel) (by decide +kernel) I1.2 (top_int (as := [.ref 77]) q623 (by decide +kernel) (by decide +kernel) I1.1 ⟨rfl, trivial⟩)) (chkR (a := 77) I1.1.1 rfl rfl rfl rfl (by show 0 ≤ 8; decide)) (fun h2 r2 => ?_)
  rintro ⟨I2, x2, f2⟩
  rw [f2]
  show Ends _ _ (1570, lv, [.int x2], h2, 599897, 7298671) _
  refine E_pop rfl rfl ?_
  refine E_goto rfl ?_
  exact K _ I2
set_option maxRecDepth 20000 in
theorem bl_56 {L : Nat} {xs : Nat → Int32} (hL : L ≤ 3072) {h : pm_H} {i : Nat} (hi : i + 6 ≤ L) (lv : List (Nat × Value)) (I : IVQ h) (L0 : pm_get lv 0 = some (.retAddr 0)) (L1 : pm_get lv 1 = some (.ref 0)) (L2 : pm_get lv 2 = some (.ref 77)) (L3 : pm_get lv 3 = some (.int (nJ i))) (K : ∀ h', IVQ h' → Ends (pm_tr (lb_all L xs)) (pm_Rt pm_P 100) (2392, lv, [], h', 599897, 7298671) RQ1) : Ends (pm_tr (lb_all L xs)) (pm_Rt pm_P 100) (1574, lv, [], h, 599897, 7298671) RQ1 := by
  refine E_al rfl L1 ?_
  refine E_call rfl (tQ_int (by decide +kernel) (by decide +kernel) I.2 (top_int (as := [.ref 0]) q626 (by decide +kernel) (by decide +kernel) I.1 ⟨rfl, trivial⟩)) (chkR (a := 0) I.1.1 rfl rfl rfl rfl (by show 0 ≤ 8; decide)) (fun h1 r1 => ?_)
  rintro ⟨I1, x1, f1⟩
  rw [f1]
  show Ends _ _ (1578, lv, [.int x1], h1, 599897, 7298671) _
  refine E_pop rfl rfl ?_
  refine E_al rfl L2 ?_
  refine E_call rfl (tQ_int (by decide +kernel) (by decide +kernel) I1.2 (top_int (as := [.ref 77]) q627 (by decide +kernel) (by decide +kernel) I1.1 ⟨rfl, trivial⟩)) (chkR (a := 77) I1.1.1 rfl rfl rfl rfl (by show 0 ≤ 8; decide)) (fun h2 r2 => ?_)
  rintro ⟨I2, x2, f2⟩
  rw [f2]
  show Ends _ _ (1583, lv, [.int x2], h2, 599897, 7298671) _
  refine E_pop rfl rfl ?_
  refine E_goto rfl ?_
  exact K _ I2
set_option maxRecDepth 20000 in
theorem bl_57 {L : Nat} {xs : Nat → Int32} (hL : L ≤ 3072) {h : pm_H} {i : Nat} (hi : i + 6 ≤ L) (lv : List (Nat × Value)) (I : IVQ h) (L0 : pm_get lv 0 = some (.retAddr 0)) (L1 : pm_get lv 1 = some (.ref 0)) (L2 : pm_get lv 2 = some (.ref 77)) (L3 : pm_get lv 3 = some (.int (nJ i))) (K : ∀ h', IVQ h' → Ends (pm_tr (lb_all L xs)) (pm_Rt pm_P 100) (2392, lv, [], h', 599897, 7298671) RQ1) : Ends (pm_tr (lb_all L xs)) (pm_Rt pm_P 100) (1587, lv, [], h, 599897, 7298671) RQ1 := by
  refine E_al rfl L1 ?_
  refine E_alr rfl L0 ?_
  refine E_il rfl L3 ?_
  refine E_ci 1 rfl ci1 ?_
  refine E_bin rfl (nJ_add _ _) ?_
  refine E_sld rfl (by omega) hL ?_
  refine E_alr rfl L0 ?_
  refine E_il rfl L3 ?_
  refine E_ci 2 rfl ci2 ?_
  refine E_bin rfl (nJ_add _ _) ?_
  refine E_sld rfl (by omega) hL ?_
  refine E_call rfl (tQ_int (by decide +kernel) (by decide +kernel) I.2 (top_int (as := [.ref 0, .int (xs ((i + 1))), .int (xs ((i + 2)))]) q638 (by decide +kernel) (by decide +kernel) I.1 ⟨rfl, aI _, aI _, trivial⟩)) (chkR (a := 0) I.1.1 rfl rfl rfl rfl (by show 0 ≤ 8; decide)) (fun h1 r1 => ?_)
  rintro ⟨I1, x1, f1⟩
  rw [f1]
  show Ends _ _ (1601, lv, [.int x1], h1, 599897, 7298671) _
  refine E_pop rfl rfl ?_
  refine E_al rfl L2 ?_
  refine E_alr rfl L0 ?_
  refine E_il rfl L3 ?_
  refine E_ci 1 rfl ci1 ?_
  refine E_bin rfl (nJ_add _ _) ?_
  refine E_sld rfl (by omega) hL ?_
  refine E_alr rfl L0 ?_
  refine E_il rfl L3 ?_
  refine E_ci 2 rfl ci2 ?_
  refine E_bin rfl (nJ_add _ _) ?_
  refine E_sld rfl (by omega) hL ?_
  refine E_call rfl (tQ_int (by decide +kernel) (by decide +kernel) I1.2 (top_int (as := [.ref 77, .int (xs ((i + 1))), .int (xs ((i + 2)))]) q656 (by decide +kernel) (by decide +kernel) I1.1 ⟨rfl, aI _, aI _, trivial⟩)) (chkR (a := 77) I1.1.1 rfl rfl rfl rfl (by show 0 ≤ 8; decide)) (fun h2 r2 => ?_)
  rintro ⟨I2, x2, f2⟩
  rw [f2]
  show Ends _ _ (1616, lv, [.int x2], h2, 599897, 7298671) _
  refine E_pop rfl rfl ?_
  refine E_goto rfl ?_
  exact K _ I2
set_option maxRecDepth 20000 in
theorem bl_58 {L : Nat} {xs : Nat → Int32} (hL : L ≤ 3072) {h : pm_H} {i : Nat} (hi : i + 6 ≤ L) (lv : List (Nat × Value)) (I : IVQ h) (L0 : pm_get lv 0 = some (.retAddr 0)) (L1 : pm_get lv 1 = some (.ref 0)) (L2 : pm_get lv 2 = some (.ref 77)) (L3 : pm_get lv 3 = some (.int (nJ i))) (K : ∀ h', IVQ h' → Ends (pm_tr (lb_all L xs)) (pm_Rt pm_P 100) (2392, lv, [], h', 599897, 7298671) RQ1) : Ends (pm_tr (lb_all L xs)) (pm_Rt pm_P 100) (1620, lv, [], h, 599897, 7298671) RQ1 := by
  refine E_al rfl L1 ?_
  refine E_alr rfl L0 ?_
  refine E_il rfl L3 ?_
  refine E_ci 1 rfl ci1 ?_
  refine E_bin rfl (nJ_add _ _) ?_
  refine E_sld rfl (by omega) hL ?_
  refine E_alr rfl L0 ?_
  refine E_il rfl L3 ?_
  refine E_ci 2 rfl ci2 ?_
  refine E_bin rfl (nJ_add _ _) ?_
  refine E_sld rfl (by omega) hL ?_
  refine E_call rfl (tQ_int (by decide +kernel) (by decide +kernel) I.2 (top_int (as := [.ref 0, .int (xs ((i + 1))), .int (xs ((i + 2)))]) q661 (by decide +kernel) (by decide +kernel) I.1 ⟨rfl, aI _, aI _, trivial⟩)) (chkR (a := 0) I.1.1 rfl rfl rfl rfl (by show 0 ≤ 8; decide)) (fun h1 r1 => ?_)
  rintro ⟨I1, x1, f1⟩
  rw [f1]
  show Ends _ _ (1634, lv, [.int x1], h1, 599897, 7298671) _
  refine E_pop rfl rfl ?_
  refine E_al rfl L2 ?_
  refine E_alr rfl L0 ?_
  refine E_il rfl L3 ?_
  refine E_ci 1 rfl ci1 ?_
  refine E_bin rfl (nJ_add _ _) ?_
  refine E_sld rfl (by omega) hL ?_
  refine E_alr rfl L0 ?_
  refine E_il rfl L3 ?_
  refine E_ci 2 rfl ci2 ?_
  refine E_bin rfl (nJ_add _ _) ?_
  refine E_sld rfl (by omega) hL ?_
  refine E_call rfl (tQ_int (by decide +kernel) (by decide +kernel) I1.2 (top_int (as := [.ref 77, .int (xs ((i + 1))), .int (xs ((i + 2)))]) q662 (by decide +kernel) (by decide +kernel) I1.1 ⟨rfl, aI _, aI _, trivial⟩)) (chkR (a := 77) I1.1.1 rfl rfl rfl rfl (by show 0 ≤ 8; decide)) (fun h2 r2 => ?_)
  rintro ⟨I2, x2, f2⟩
  rw [f2]
  show Ends _ _ (1649, lv, [.int x2], h2, 599897, 7298671) _
  refine E_pop rfl rfl ?_
  refine E_goto rfl ?_
  exact K _ I2
set_option maxRecDepth 20000 in
theorem bl_59 {L : Nat} {xs : Nat → Int32} (hL : L ≤ 3072) {h : pm_H} {i : Nat} (hi : i + 6 ≤ L) (lv : List (Nat × Value)) (I : IVQ h) (L0 : pm_get lv 0 = some (.retAddr 0)) (L1 : pm_get lv 1 = some (.ref 0)) (L2 : pm_get lv 2 = some (.ref 77)) (L3 : pm_get lv 3 = some (.int (nJ i))) (K : ∀ h', IVQ h' → Ends (pm_tr (lb_all L xs)) (pm_Rt pm_P 100) (2392, lv, [], h', 599897, 7298671) RQ1) : Ends (pm_tr (lb_all L xs)) (pm_Rt pm_P 100) (1653, lv, [], h, 599897, 7298671) RQ1 := by
  refine E_al rfl L1 ?_
  refine E_alr rfl L0 ?_
  refine E_il rfl L3 ?_
  refine E_ci 1 rfl ci1 ?_
  refine E_bin rfl (nJ_add _ _) ?_
  refine E_sld rfl (by omega) hL ?_
  refine E_alr rfl L0 ?_
  refine E_il rfl L3 ?_
  refine E_ci 2 rfl ci2 ?_
  refine E_bin rfl (nJ_add _ _) ?_
  refine E_sld rfl (by omega) hL ?_
  refine E_call rfl (tQ_int (by decide +kernel) (by decide +kernel) I.2 (top_int (as := [.ref 0, .int (xs ((i + 1))), .int (xs ((i + 2)))]) q664 (by decide +kernel) (by decide +kernel) I.1 ⟨rfl, aI _, aI _, trivial⟩)) (chkR (a := 0) I.1.1 rfl rfl rfl rfl (by show 0 ≤ 8; decide)) (fun h1 r1 => ?_)
  rintro ⟨I1, x1, f1⟩
  rw [f1]
  show Ends _ _ (1667, lv, [.int x1], h1, 599897, 7298671) _
  refine E_pop rfl rfl ?_
  refine E_al rfl L2 ?_
  refine E_alr rfl L0 ?_
  refine E_il rfl L3 ?_
  refine E_ci 1 rfl ci1 ?_
  refine E_bin rfl (nJ_add _ _) ?_
  refine E_sld rfl (by omega) hL ?_
  refine E_alr rfl L0 ?_
  refine E_il rfl L3 ?_
  refine E_ci 2 rfl ci2 ?_
  refine E_bin rfl (nJ_add _ _) ?_
  refine E_sld rfl (by omega) hL ?_
  refine E_call rfl (tQ_int (by decide +kernel) (by decide +kernel) I1.2 (top_int (as := [.ref 77, .int (xs ((i + 1))), .int (xs ((i + 2)))]) q665 (by decide +kernel) (by decide +kernel) I1.1 ⟨rfl, aI _, aI _, trivial⟩)) (chkR (a := 77) I1.1.1 rfl rfl rfl rfl (by show 0 ≤ 8; decide)) (fun h2 r2 => ?_)
  rintro ⟨I2, x2, f2⟩
  rw [f2]
  show Ends _ _ (1682, lv, [.int x2], h2, 599897, 7298671) _
  refine E_pop rfl rfl ?_
  refine E_goto rfl ?_
  exact K _ I2
set_option maxRecDepth 20000 in
theorem bl_60 {L : Nat} {xs : Nat → Int32} (hL : L ≤ 3072) {h : pm_H} {i : Nat} (hi : i + 6 ≤ L) (lv : List (Nat × Value)) (I : IVQ h) (L0 : pm_get lv 0 = some (.retAddr 0)) (L1 : pm_get lv 1 = some (.ref 0)) (L2 : pm_get lv 2 = some (.ref 77)) (L3 : pm_get lv 3 = some (.int (nJ i))) (K : ∀ h', IVQ h' → Ends (pm_tr (lb_all L xs)) (pm_Rt pm_P 100) (2392, lv, [], h', 599897, 7298671) RQ1) : Ends (pm_tr (lb_all L xs)) (pm_Rt pm_P 100) (1686, lv, [], h, 599897, 7298671) RQ1 := by
  refine E_al rfl L1 ?_
  refine E_alr rfl L0 ?_
  refine E_il rfl L3 ?_
  refine E_ci 1 rfl ci1 ?_
  refine E_bin rfl (nJ_add _ _) ?_
  refine E_sld rfl (by omega) hL ?_
  refine E_call rfl (tQ_int (by decide +kernel) (by decide +kernel) I.2 (top_int (as := [.ref 0, .int (xs ((i + 1)))]) q667 (by decide +kernel) (by decide +kernel) I.1 ⟨rfl, aI _, trivial⟩)) (chkR (a := 0) I.1.1 rfl rfl rfl rfl (by show 0 ≤ 8; decide)) (fun h1 r1 => ?_)
  rintro ⟨I1, x1, f1⟩
  rw [f1]
  show Ends _ _ (1695, lv, [.int x1], h1, 599897, 7298671) _
  refine E_pop rfl rfl ?_
  refine E_al rfl L2 ?_
  refine E_alr rfl L0 ?_
  refine E_il rfl L3 ?_
  refine E_ci 1 rfl ci1 ?_
  refine E_bin rfl (nJ_add _ _) ?_
  refine E_sld rfl (by omega) hL ?_
  refine E_call rfl (tQ_int (by decide +kernel) (by decide +kernel) I1.2 (top_int (as := [.ref 77, .int (xs ((i + 1)))]) q669 (by decide +kernel) (by decide +kernel) I1.1 ⟨rfl, aI _, trivial⟩)) (chkR (a := 77) I1.1.1 rfl rfl rfl rfl (by show 0 ≤ 8; decide)) (fun h2 r2 => ?_)
  rintro ⟨I2, x2, f2⟩
  rw [f2]
  show Ends _ _ (1705, lv, [.int x2], h2, 599897, 7298671) _
  refine E_pop rfl rfl ?_
  refine E_goto rfl ?_
  exact K _ I2
set_option maxRecDepth 20000 in
theorem bl_61 {L : Nat} {xs : Nat → Int32} (hL : L ≤ 3072) {h : pm_H} {i : Nat} (hi : i + 6 ≤ L) (lv : List (Nat × Value)) (I : IVQ h) (L0 : pm_get lv 0 = some (.retAddr 0)) (L1 : pm_get lv 1 = some (.ref 0)) (L2 : pm_get lv 2 = some (.ref 77)) (L3 : pm_get lv 3 = some (.int (nJ i))) (K : ∀ h', IVQ h' → Ends (pm_tr (lb_all L xs)) (pm_Rt pm_P 100) (2392, lv, [], h', 599897, 7298671) RQ1) : Ends (pm_tr (lb_all L xs)) (pm_Rt pm_P 100) (1709, lv, [], h, 599897, 7298671) RQ1 := by
  refine E_al rfl L1 ?_
  refine E_alr rfl L0 ?_
  refine E_il rfl L3 ?_
  refine E_ci 1 rfl ci1 ?_
  refine E_bin rfl (nJ_add _ _) ?_
  refine E_sld rfl (by omega) hL ?_
  refine E_call rfl (tQ_int (by decide +kernel) (by decide +kernel) I.2 (top_int (as := [.ref 0, .int (xs ((i + 1)))]) q670 (by decide +kernel) (by decide +kernel) I.1 ⟨rfl, aI _, trivial⟩)) (chkR (a := 0) I.1.1 rfl rfl rfl rfl (by show 0 ≤ 8; decide)) (fun h1 r1 => ?_)
  rintro ⟨I1, x1, f1⟩
  rw [f1]
  show Ends _ _ (1718, lv, [.int x1], h1, 599897, 7298671) _
  refine E_pop rfl rfl ?_
  refine E_al rfl L2 ?_
  refine E_alr rfl L0 ?_
  refine E_il rfl L3 ?_
  refine E_ci 1 rfl ci1 ?_
  refine E_bin rfl (nJ_add _ _) ?_
  refine E_sld rfl (by omega) hL ?_
  refine E_call rfl (tQ_int (by decide +kernel) (by decide +kernel) I1.2 (top_int (as := [.ref 77, .int (xs ((i + 1)))]) q671 (by decide +kernel) (by decide +kernel) I1.1 ⟨rfl, aI _, trivial⟩)) (chkR (a := 77) I1.1.1 rfl rfl rfl rfl (by show 0 ≤ 8; decide)) (fun h2 r2 => ?_)
  rintro ⟨I2, x2, f2⟩
  rw [f2]
  show Ends _ _ (1728, lv, [.int x2], h2, 599897, 7298671) _
  refine E_pop rfl rfl ?_
  refine E_goto rfl ?_
  exact K _ I2
set_option maxRecDepth 20000 in
theorem bl_62 {L : Nat} {xs : Nat → Int32} (hL : L ≤ 3072) {h : pm_H} {i : Nat} (hi : i + 6 ≤ L) (lv : List (Nat × Value)) (I : IVQ h) (L0 : pm_get lv 0 = some (.retAddr 0)) (L1 : pm_get lv 1 = some (.ref 0)) (L2 : pm_get lv 2 = some (.ref 77)) (L3 : pm_get lv 3 = some (.int (nJ i))) (K : ∀ h', IVQ h' → Ends (pm_tr (lb_all L xs)) (pm_Rt pm_P 100) (2392, lv, [], h', 599897, 7298671) RQ1) : Ends (pm_tr (lb_all L xs)) (pm_Rt pm_P 100) (1732, lv, [], h, 599897, 7298671) RQ1 := by
  refine E_al rfl L1 ?_
  refine E_call rfl (tQ_int (by decide +kernel) (by decide +kernel) I.2 (top_int (as := [.ref 0]) q675 (by decide +kernel) (by decide +kernel) I.1 ⟨rfl, trivial⟩)) (chkR (a := 0) I.1.1 rfl rfl rfl rfl (by show 0 ≤ 8; decide)) (fun h1 r1 => ?_)
  rintro ⟨I1, x1, f1⟩
  rw [f1]
  show Ends _ _ (1736, lv, [.int x1], h1, 599897, 7298671) _
  refine E_pop rfl rfl ?_
  refine E_al rfl L2 ?_
  refine E_call rfl (tQ_int (by decide +kernel) (by decide +kernel) I1.2 (top_int (as := [.ref 77]) q676 (by decide +kernel) (by decide +kernel) I1.1 ⟨rfl, trivial⟩)) (chkR (a := 77) I1.1.1 rfl rfl rfl rfl (by show 0 ≤ 8; decide)) (fun h2 r2 => ?_)
  rintro ⟨I2, x2, f2⟩
  rw [f2]
  show Ends _ _ (1741, lv, [.int x2], h2, 599897, 7298671) _
  refine E_pop rfl rfl ?_
  refine E_goto rfl ?_
  exact K _ I2
set_option maxRecDepth 20000 in
theorem bl_63 {L : Nat} {xs : Nat → Int32} (hL : L ≤ 3072) {h : pm_H} {i : Nat} (hi : i + 6 ≤ L) (lv : List (Nat × Value)) (I : IVQ h) (L0 : pm_get lv 0 = some (.retAddr 0)) (L1 : pm_get lv 1 = some (.ref 0)) (L2 : pm_get lv 2 = some (.ref 77)) (L3 : pm_get lv 3 = some (.int (nJ i))) (K : ∀ h', IVQ h' → Ends (pm_tr (lb_all L xs)) (pm_Rt pm_P 100) (2392, lv, [], h', 599897, 7298671) RQ1) : Ends (pm_tr (lb_all L xs)) (pm_Rt pm_P 100) (1745, lv, [], h, 599897, 7298671) RQ1 := by
  refine E_al rfl L1 ?_
  refine E_alr rfl L0 ?_
  refine E_il rfl L3 ?_
  refine E_ci 1 rfl ci1 ?_
  refine E_bin rfl (nJ_add _ _) ?_
  refine E_sld rfl (by omega) hL ?_
  refine E_call rfl (tQ_int (by decide +kernel) (by decide +kernel) I.2 (top_int (as := [.ref 0, .int (xs ((i + 1)))]) q677 (by decide +kernel) (by decide +kernel) I.1 ⟨rfl, aI _, trivial⟩)) (chkR (a := 0) I.1.1 rfl rfl rfl rfl (by show 0 ≤ 8; decide)) (fun h1 r1 => ?_)
  rintro ⟨I1, x1, f1⟩
  rw [f1]
  show Ends _ _ (1754, lv, [.int x1], h1, 599897, 7298671) _
  refine E_pop rfl rfl ?_
  refine E_al rfl L2 ?_
  refine E_alr rfl L0 ?_
  refine E_il rfl L3 ?_
  refine E_ci 1 rfl ci1 ?_
  refine E_bin rfl (nJ_add _ _) ?_
  refine E_sld rfl (by omega) hL ?_
  refine E_call rfl (tQ_int (by decide +kernel) (by decide +kernel) I1.2 (top_int (as := [.ref 77, .int (xs ((i + 1)))]) q680 (by decide +kernel) (by decide +kernel) I1.1 ⟨rfl, aI _, trivial⟩)) (chkR (a := 77) I1.1.1 rfl rfl rfl rfl (by show 0 ≤ 8; decide)) (fun h2 r2 => ?_)
  rintro ⟨I2, x2, f2⟩
  rw [f2]
  show Ends _ _ (1764, lv, [.int x2], h2, 599897, 7298671) _
  refine E_pop rfl rfl ?_
  refine E_goto rfl ?_
  exact K _ I2
set_option maxRecDepth 20000 in
theorem bl_64 {L : Nat} {xs : Nat → Int32} (hL : L ≤ 3072) {h : pm_H} {i : Nat} (hi : i + 6 ≤ L) (lv : List (Nat × Value)) (I : IVQ h) (L0 : pm_get lv 0 = some (.retAddr 0)) (L1 : pm_get lv 1 = some (.ref 0)) (L2 : pm_get lv 2 = some (.ref 77)) (L3 : pm_get lv 3 = some (.int (nJ i))) (K : ∀ h', IVQ h' → Ends (pm_tr (lb_all L xs)) (pm_Rt pm_P 100) (2392, lv, [], h', 599897, 7298671) RQ1) : Ends (pm_tr (lb_all L xs)) (pm_Rt pm_P 100) (1768, lv, [], h, 599897, 7298671) RQ1 := by
  refine E_al rfl L1 ?_
  refine E_alr rfl L0 ?_
  refine E_il rfl L3 ?_
  refine E_ci 1 rfl ci1 ?_
  refine E_bin rfl (nJ_add _ _) ?_
  refine E_sld rfl (by omega) hL ?_
  refine E_alr rfl L0 ?_
  refine E_il rfl L3 ?_
  refine E_ci 2 rfl ci2 ?_
  refine E_bin rfl (nJ_add _ _) ?_
  refine E_sld rfl (by omega) hL ?_
  refine E_call rfl (tQ_int (by decide +kernel) (by decide +kernel) I.2 (top_int (as := [.ref 0, .int (xs ((i + 1))), .int (xs ((i + 2)))]) q730 (by decide +kernel) (by decide +kernel) I.1 ⟨rfl, aI _, aI _, trivial⟩)) (chkR (a := 0) I.1.1 rfl rfl rfl rfl (by show 0 ≤ 8; decide)) (fun h1 r1 => ?_)
  rintro ⟨I1, x1, f1⟩
  rw [f1]
  show Ends _ _ (1782, lv, [.int x1], h1, 599897, 7298671) _
  refine E_pop rfl rfl ?_
  refine E_al rfl L2 ?_
  refine E_alr rfl L0 ?_
  refine E_il rfl L3 ?_
  refine E_ci 1 rfl ci1 ?_
  refine E_bin rfl (nJ_add _ _) ?_
  refine E_sld rfl (by omega) hL ?_
  refine E_alr rfl L0 ?_
  refine E_il rfl L3 ?_
  refine E_ci 2 rfl ci2 ?_
  refine E_bin rfl (nJ_add _ _) ?_
  refine E_sld rfl (by omega) hL ?_
  refine E_call rfl (tQ_int (by decide +kernel) (by decide +kernel) I1.2 (top_int (as := [.ref 77, .int (xs ((i + 1))), .int (xs ((i + 2)))]) q964 (by decide +kernel) (by decide +kernel) I1.1 ⟨rfl, aI _, aI _, trivial⟩)) (chkR (a := 77) I1.1.1 rfl rfl rfl rfl (by show 0 ≤ 8; decide)) (fun h2 r2 => ?_)
  rintro ⟨I2, x2, f2⟩
  rw [f2]
  show Ends _ _ (1797, lv, [.int x2], h2, 599897, 7298671) _
  refine E_pop rfl rfl ?_
  refine E_goto rfl ?_
  exact K _ I2
set_option maxRecDepth 20000 in
theorem bl_65 {L : Nat} {xs : Nat → Int32} (hL : L ≤ 3072) {h : pm_H} {i : Nat} (hi : i + 6 ≤ L) (lv : List (Nat × Value)) (I : IVQ h) (L0 : pm_get lv 0 = some (.retAddr 0)) (L1 : pm_get lv 1 = some (.ref 0)) (L2 : pm_get lv 2 = some (.ref 77)) (L3 : pm_get lv 3 = some (.int (nJ i))) (K : ∀ h', IVQ h' → Ends (pm_tr (lb_all L xs)) (pm_Rt pm_P 100) (2392, lv, [], h', 599897, 7298671) RQ1) : Ends (pm_tr (lb_all L xs)) (pm_Rt pm_P 100) (1801, lv, [], h, 599897, 7298671) RQ1 := by
  refine E_al rfl L1 ?_
  refine E_alr rfl L0 ?_
  refine E_il rfl L3 ?_
  refine E_ci 1 rfl ci1 ?_
  refine E_bin rfl (nJ_add _ _) ?_
  refine E_sld rfl (by omega) hL ?_
  refine E_alr rfl L0 ?_
  refine E_il rfl L3 ?_
  refine E_ci 2 rfl ci2 ?_
  refine E_bin rfl (nJ_add _ _) ?_
  refine E_sld rfl (by omega) hL ?_
  refine E_call rfl (tQ_int (by decide +kernel) (by decide +kernel) I.2 (top_int (as := [.ref 0, .int (xs ((i + 1))), .int (xs ((i + 2)))]) q754 (by decide +kernel) (by decide +kernel) I.1 ⟨rfl, aI _, aI _, trivial⟩)) (chkR (a := 0) I.1.1 rfl rfl rfl rfl (by show 0 ≤ 8; decide)) (fun h1 r1 => ?_)
  rintro ⟨I1, x1, f1⟩
  rw [f1]
  show Ends _ _ (1815, lv, [.int x1], h1, 599897, 7298671) _
  refine E_pop rfl rfl ?_
  refine E_al rfl L2 ?_
  refine E_alr rfl L0 ?_
  refine E_il rfl L3 ?_
  refine E_ci 1 rfl ci1 ?_
  refine E_bin rfl (nJ_add _ _) ?_
  refine E_sld rfl (by omega) hL ?_
  refine E_alr rfl L0 ?_
  refine E_il rfl L3 ?_
  refine E_ci 2 rfl ci2 ?_
  refine E_bin rfl (nJ_add _ _) ?_
  refine E_sld rfl (by omega) hL ?_
  refine E_call rfl (tQ_int (by decide +kernel) (by decide +kernel) I1.2 (top_int (as := [.ref 77, .int (xs ((i + 1))), .int (xs ((i + 2)))]) q761 (by decide +kernel) (by decide +kernel) I1.1 ⟨rfl, aI _, aI _, trivial⟩)) (chkR (a := 77) I1.1.1 rfl rfl rfl rfl (by show 0 ≤ 8; decide)) (fun h2 r2 => ?_)
  rintro ⟨I2, x2, f2⟩
  rw [f2]
  show Ends _ _ (1830, lv, [.int x2], h2, 599897, 7298671) _
  refine E_pop rfl rfl ?_
  refine E_goto rfl ?_
  exact K _ I2
set_option maxRecDepth 20000 in
theorem bl_66 {L : Nat} {xs : Nat → Int32} (hL : L ≤ 3072) {h : pm_H} {i : Nat} (hi : i + 6 ≤ L) (lv : List (Nat × Value)) (I : IVQ h) (L0 : pm_get lv 0 = some (.retAddr 0)) (L1 : pm_get lv 1 = some (.ref 0)) (L2 : pm_get lv 2 = some (.ref 77)) (L3 : pm_get lv 3 = some (.int (nJ i))) (K : ∀ h', IVQ h' → Ends (pm_tr (lb_all L xs)) (pm_Rt pm_P 100) (2392, lv, [], h', 599897, 7298671) RQ1) : Ends (pm_tr (lb_all L xs)) (pm_Rt pm_P 100) (1834, lv, [], h, 599897, 7298671) RQ1 := by
  refine E_al rfl L1 ?_
  refine E_alr rfl L0 ?_
  refine E_il rfl L3 ?_
  refine E_ci 1 rfl ci1 ?_
  refine E_bin rfl (nJ_add _ _) ?_
  refine E_sld rfl (by omega) hL ?_
  refine E_alr rfl L0 ?_
  refine E_il rfl L3 ?_
  refine E_ci 2 rfl ci2 ?_
  refine E_bin rfl (nJ_add _ _) ?_
  refine E_sld rfl (by omega) hL ?_
  refine E_alr rfl L0 ?_
  refine E_il rfl L3 ?_
  refine E_ci 3 rfl ci3 ?_
  refine E_bin rfl (nJ_add _ _) ?_
  refine E_sld rfl (by omega) hL ?_
  refine E_alr rfl L0 ?_
  refine E_il rfl L3 ?_
  refine E_ci 4 rfl ci4 ?_
  refine E_bin rfl (nJ_add _ _) ?_
  refine E_sld rfl (by omega) hL ?_
  refine E_call rfl (tQ_int (by decide +kernel) (by decide +kernel) I.2 (top_int (as := [.ref 0, .int (xs ((i + 1))), .int (xs ((i + 2))), .int (xs ((i + 3))), .int (xs ((i + 4)))]) q764 (by decide +kernel) (by decide +kernel) I.1 ⟨rfl, aI _, aI _, aI _, aI _, trivial⟩)) (chkR (a := 0) I.1.1 rfl rfl rfl rfl (by show 0 ≤ 8; decide)) (fun h1 r1 => ?_)
  rintro ⟨I1, x1, f1⟩
  rw [f1]
  show Ends _ _ (1858, lv, [.int x1], h1, 599897, 7298671) _
  refine E_pop rfl rfl ?_
  refine E_al rfl L2 ?_
  refine E_alr rfl L0 ?_
  refine E_il rfl L3 ?_
  refine E_ci 1 rfl ci1 ?_
  refine E_bin rfl (nJ_add _ _) ?_
  refine E_sld rfl (by omega) hL ?_
  refine E_alr rfl L0 ?_
  refine E_il rfl L3 ?_
  refine E_ci 2 rfl ci2 ?_
  refine E_bin rfl (nJ_add _ _) ?_
  refine E_sld rfl (by omega) hL ?_
  refine E_alr rfl L0 ?_
  refine E_il rfl L3 ?_
  refine E_ci 3 rfl ci3 ?_
  refine E_bin rfl (nJ_add _ _) ?_
  refine E_sld rfl (by omega) hL ?_
  refine E_alr rfl L0 ?_
  refine E_il rfl L3 ?_
  refine E_ci 4 rfl ci4 ?_
  refine E_bin rfl (nJ_add _ _) ?_
  refine E_sld rfl (by omega) hL ?_
  refine E_call rfl (tQ_int (by decide +kernel) (by decide +kernel) I1.2 (top_int (as := [.ref 77, .int (xs ((i + 1))), .int (xs ((i + 2))), .int (xs ((i + 3))), .int (xs ((i + 4)))]) q767 (by decide +kernel) (by decide +kernel) I1.1 ⟨rfl, aI _, aI _, aI _, aI _, trivial⟩)) (chkR (a := 77) I1.1.1 rfl rfl rfl rfl (by show 0 ≤ 8; decide)) (fun h2 r2 => ?_)
  rintro ⟨I2, x2, f2⟩
  rw [f2]
  show Ends _ _ (1883, lv, [.int x2], h2, 599897, 7298671) _
  refine E_pop rfl rfl ?_
  refine E_goto rfl ?_
  exact K _ I2
set_option maxRecDepth 20000 in
theorem bl_67 {L : Nat} {xs : Nat → Int32} (hL : L ≤ 3072) {h : pm_H} {i : Nat} (hi : i + 6 ≤ L) (lv : List (Nat × Value)) (I : IVQ h) (L0 : pm_get lv 0 = some (.retAddr 0)) (L1 : pm_get lv 1 = some (.ref 0)) (L2 : pm_get lv 2 = some (.ref 77)) (L3 : pm_get lv 3 = some (.int (nJ i))) (K : ∀ h', IVQ h' → Ends (pm_tr (lb_all L xs)) (pm_Rt pm_P 100) (2392, lv, [], h', 599897, 7298671) RQ1) : Ends (pm_tr (lb_all L xs)) (pm_Rt pm_P 100) (1887, lv, [], h, 599897, 7298671) RQ1 := by
  refine E_al rfl L1 ?_
  refine E_alr rfl L0 ?_
  refine E_il rfl L3 ?_
  refine E_ci 1 rfl ci1 ?_
  refine E_bin rfl (nJ_add _ _) ?_
  refine E_sld rfl (by omega) hL ?_
  refine E_alr rfl L0 ?_
  refine E_il rfl L3 ?_
  refine E_ci 2 rfl ci2 ?_
  refine E_bin rfl (nJ_add _ _) ?_
  refine E_sld rfl (by omega) hL ?_
  refine E_call rfl (tQ_int (by decide +kernel) (by decide +kernel) I.2 (top_int (as := [.ref 0, .int (xs ((i + 1))), .int (xs ((i + 2)))]) q779 (by decide +kernel) (by decide +kernel) I.1 ⟨rfl, aI _, aI _, trivial⟩)) (chkR (a := 0) I.1.1 rfl rfl rfl rfl (by show 0 ≤ 8; decide)) (fun h1 r1 => ?_)
  rintro ⟨I1, x1, f1⟩
  rw [f1]
  show Ends _ _ (1901, lv, [.int x1], h1, 599897, 7298671) _
  refine E_pop rfl rfl ?_
  refine E_al rfl L2 ?_
  refine E_alr rfl L0 ?_
  refine E_il rfl L3 ?_
  refine E_ci 1 rfl ci1 ?_
  refine E_bin rfl (nJ_add _ _) ?_
  refine E_sld rfl (by omega) hL ?_
  refine E_alr rfl L0 ?_
  refine E_il rfl L3 ?_
  refine E_ci 2 rfl ci2 ?_
  refine E_bin rfl (nJ_add _ _) ?_
  refine E_sld rfl (by omega) hL ?_
  refine E_call rfl (tQ_int (by decide +kernel) (by decide +kernel) I1.2 (top_int (as := [.ref 77, .int (xs ((i + 1))), .int (xs ((i + 2)))]) q966 (by decide +kernel) (by decide +kernel) I1.1 ⟨rfl, aI _, aI _, trivial⟩)) (chkR (a := 77) I1.1.1 rfl rfl rfl rfl (by show 0 ≤ 8; decide)) (fun h2 r2 => ?_)
  rintro ⟨I2, x2, f2⟩
  rw [f2]
  show Ends _ _ (1916, lv, [.int x2], h2, 599897, 7298671) _
  refine E_pop rfl rfl ?_
  refine E_goto rfl ?_
  exact K _ I2
set_option maxRecDepth 20000 in
theorem bl_68 {L : Nat} {xs : Nat → Int32} (hL : L ≤ 3072) {h : pm_H} {i : Nat} (hi : i + 6 ≤ L) (lv : List (Nat × Value)) (I : IVQ h) (L0 : pm_get lv 0 = some (.retAddr 0)) (L1 : pm_get lv 1 = some (.ref 0)) (L2 : pm_get lv 2 = some (.ref 77)) (L3 : pm_get lv 3 = some (.int (nJ i))) (K : ∀ h', IVQ h' → Ends (pm_tr (lb_all L xs)) (pm_Rt pm_P 100) (2392, lv, [], h', 599897, 7298671) RQ1) : Ends (pm_tr (lb_all L xs)) (pm_Rt pm_P 100) (1920, lv, [], h, 599897, 7298671) RQ1 := by
  refine E_al rfl L1 ?_
  refine E_alr rfl L0 ?_
  refine E_il rfl L3 ?_
  refine E_ci 1 rfl ci1 ?_
  refine E_bin rfl (nJ_add _ _) ?_
  refine E_sld rfl (by omega) hL ?_
  refine E_call rfl (tQ_lng (by decide +kernel) (by decide +kernel) I.2 (top_lng (as := [.ref 0, .int (xs ((i + 1)))]) q844 (by decide +kernel) (by decide +kernel) I.1 ⟨rfl, aI _, trivial⟩)) (chkR (a := 0) I.1.1 rfl rfl rfl rfl (by show 0 ≤ 8; decide)) (fun h1 r1 => ?_)
  rintro ⟨I1, x1, f1⟩
  rw [f1]
  show Ends _ _ (1929, lv, [.long x1], h1, 599897, 7298671) _
  refine E_pop2 rfl rfl ?_
  refine E_al rfl L2 ?_
  refine E_alr rfl L0 ?_
  refine E_il rfl L3 ?_
  refine E_ci 1 rfl ci1 ?_
  refine E_bin rfl (nJ_add _ _) ?_
  refine E_sld rfl (by omega) hL ?_
  refine E_call rfl (tQ_lng (by decide +kernel) (by decide +kernel) I1.2 (top_lng (as := [.ref 77, .int (xs ((i + 1)))]) q967 (by decide +kernel) (by decide +kernel) I1.1 ⟨rfl, aI _, trivial⟩)) (chkR (a := 77) I1.1.1 rfl rfl rfl rfl (by show 0 ≤ 8; decide)) (fun h2 r2 => ?_)
  rintro ⟨I2, x2, f2⟩
  rw [f2]
  show Ends _ _ (1939, lv, [.long x2], h2, 599897, 7298671) _
  refine E_pop2 rfl rfl ?_
  refine E_goto rfl ?_
  exact K _ I2
set_option maxRecDepth 20000 in
theorem bl_69 {L : Nat} {xs : Nat → Int32} (hL : L ≤ 3072) {h : pm_H} {i : Nat} (hi : i + 6 ≤ L) (lv : List (Nat × Value)) (I : IVQ h) (L0 : pm_get lv 0 = some (.retAddr 0)) (L1 : pm_get lv 1 = some (.ref 0)) (L2 : pm_get lv 2 = some (.ref 77)) (L3 : pm_get lv 3 = some (.int (nJ i))) (K : ∀ h', IVQ h' → Ends (pm_tr (lb_all L xs)) (pm_Rt pm_P 100) (2392, lv, [], h', 599897, 7298671) RQ1) : Ends (pm_tr (lb_all L xs)) (pm_Rt pm_P 100) (1943, lv, [], h, 599897, 7298671) RQ1 := by
  refine E_al rfl L1 ?_
  refine E_alr rfl L0 ?_
  refine E_il rfl L3 ?_
  refine E_ci 1 rfl ci1 ?_
  refine E_bin rfl (nJ_add _ _) ?_
  refine E_sld rfl (by omega) hL ?_
  refine E_alr rfl L0 ?_
  refine E_il rfl L3 ?_
  refine E_ci 2 rfl ci2 ?_
  refine E_bin rfl (nJ_add _ _) ?_
  refine E_sld rfl (by omega) hL ?_
  refine E_call rfl (g8_wants I) (chkR (a := 0) I.1.1 rfl rfl rfl rfl (by show 0 ≤ 8; decide)) (fun h1 r1 => ?_)
  rintro ⟨I1, x1, f1, J1⟩
  rw [f1]
  show Ends _ _ (1957, lv, [.int x1], h1, 599897, 7298671) _
  refine E_pop rfl rfl ?_
  refine E_al rfl L2 ?_
  refine E_alr rfl L0 ?_
  refine E_il rfl L3 ?_
  refine E_ci 1 rfl ci1 ?_
  refine E_bin rfl (nJ_add _ _) ?_
  refine E_sld rfl (by omega) hL ?_
  refine E_alr rfl L0 ?_
  refine E_il rfl L3 ?_
  refine E_ci 2 rfl ci2 ?_
  refine E_bin rfl (nJ_add _ _) ?_
  refine E_sld rfl (by omega) hL ?_
  refine E_call rfl (g9_wants I1 J1) (chkR (a := 77) I1.1 rfl rfl rfl rfl (by show 0 ≤ 8; decide)) (fun h2 r2 => ?_)
  rintro ⟨I2, x2, f2⟩
  rw [f2]
  show Ends _ _ (1972, lv, [.int x2], h2, 599897, 7298671) _
  refine E_pop rfl rfl ?_
  refine E_goto rfl ?_
  exact K _ I2
set_option maxRecDepth 20000 in
theorem bl_70 {L : Nat} {xs : Nat → Int32} (hL : L ≤ 3072) {h : pm_H} {i : Nat} (hi : i + 6 ≤ L) (lv : List (Nat × Value)) (I : IVQ h) (L0 : pm_get lv 0 = some (.retAddr 0)) (L1 : pm_get lv 1 = some (.ref 0)) (L2 : pm_get lv 2 = some (.ref 77)) (L3 : pm_get lv 3 = some (.int (nJ i))) (K : ∀ h', IVQ h' → Ends (pm_tr (lb_all L xs)) (pm_Rt pm_P 100) (2392, lv, [], h', 599897, 7298671) RQ1) : Ends (pm_tr (lb_all L xs)) (pm_Rt pm_P 100) (1976, lv, [], h, 599897, 7298671) RQ1 := by
  refine E_al rfl L1 ?_
  refine E_alr rfl L0 ?_
  refine E_il rfl L3 ?_
  refine E_ci 1 rfl ci1 ?_
  refine E_bin rfl (nJ_add _ _) ?_
  refine E_sld rfl (by omega) hL ?_
  refine E_alr rfl L0 ?_
  refine E_il rfl L3 ?_
  refine E_ci 2 rfl ci2 ?_
  refine E_bin rfl (nJ_add _ _) ?_
  refine E_sld rfl (by omega) hL ?_
  refine E_call rfl (g8_trades I) (chkR (a := 0) I.1.1 rfl rfl rfl rfl (by show 0 ≤ 8; decide)) (fun h1 r1 => ?_)
  rintro ⟨I1, x1, f1, J1⟩
  rw [f1]
  show Ends _ _ (1990, lv, [.int x1], h1, 599897, 7298671) _
  refine E_pop rfl rfl ?_
  refine E_al rfl L2 ?_
  refine E_alr rfl L0 ?_
  refine E_il rfl L3 ?_
  refine E_ci 1 rfl ci1 ?_
  refine E_bin rfl (nJ_add _ _) ?_
  refine E_sld rfl (by omega) hL ?_
  refine E_alr rfl L0 ?_
  refine E_il rfl L3 ?_
  refine E_ci 2 rfl ci2 ?_
  refine E_bin rfl (nJ_add _ _) ?_
  refine E_sld rfl (by omega) hL ?_
  refine E_call rfl (g9_trades I1 J1) (chkR (a := 77) I1.1 rfl rfl rfl rfl (by show 0 ≤ 8; decide)) (fun h2 r2 => ?_)
  rintro ⟨I2, x2, f2⟩
  rw [f2]
  show Ends _ _ (2005, lv, [.int x2], h2, 599897, 7298671) _
  refine E_pop rfl rfl ?_
  refine E_goto rfl ?_
  exact K _ I2
set_option maxRecDepth 20000 in
theorem bl_71 {L : Nat} {xs : Nat → Int32} (hL : L ≤ 3072) {h : pm_H} {i : Nat} (hi : i + 6 ≤ L) (lv : List (Nat × Value)) (I : IVQ h) (L0 : pm_get lv 0 = some (.retAddr 0)) (L1 : pm_get lv 1 = some (.ref 0)) (L2 : pm_get lv 2 = some (.ref 77)) (L3 : pm_get lv 3 = some (.int (nJ i))) (K : ∀ h', IVQ h' → Ends (pm_tr (lb_all L xs)) (pm_Rt pm_P 100) (2392, lv, [], h', 599897, 7298671) RQ1) : Ends (pm_tr (lb_all L xs)) (pm_Rt pm_P 100) (2009, lv, [], h, 599897, 7298671) RQ1 := by
  refine E_al rfl L1 ?_
  refine E_call rfl (g8_undo I) (chkR (a := 0) I.1.1 rfl rfl rfl rfl (by show 0 ≤ 8; decide)) (fun h1 r1 => ?_)
  rintro ⟨I1, x1, f1, J1⟩
  rw [f1]
  show Ends _ _ (2013, lv, [.int x1], h1, 599897, 7298671) _
  refine E_pop rfl rfl ?_
  refine E_al rfl L2 ?_
  refine E_call rfl (g9_undo I1 J1) (chkR (a := 77) I1.1 rfl rfl rfl rfl (by show 0 ≤ 8; decide)) (fun h2 r2 => ?_)
  rintro ⟨I2, f2⟩
  rw [f2]
  show Ends _ _ (2018, lv, [.int x1], h2, 599897, 7298671) _
  refine E_pop rfl rfl ?_
  refine E_goto rfl ?_
  exact K _ I2
set_option maxRecDepth 20000 in
theorem bl_72 {L : Nat} {xs : Nat → Int32} (hL : L ≤ 3072) {h : pm_H} {i : Nat} (hi : i + 6 ≤ L) (lv : List (Nat × Value)) (I : IVQ h) (L0 : pm_get lv 0 = some (.retAddr 0)) (L1 : pm_get lv 1 = some (.ref 0)) (L2 : pm_get lv 2 = some (.ref 77)) (L3 : pm_get lv 3 = some (.int (nJ i))) (K : ∀ h', IVQ h' → Ends (pm_tr (lb_all L xs)) (pm_Rt pm_P 100) (2392, lv, [], h', 599897, 7298671) RQ1) : Ends (pm_tr (lb_all L xs)) (pm_Rt pm_P 100) (2022, lv, [], h, 599897, 7298671) RQ1 := by
  refine E_al rfl L1 ?_
  refine E_call rfl (g8_anew I) (chkR (a := 0) I.1.1 rfl rfl rfl rfl (by show 0 ≤ 8; decide)) (fun h1 r1 => ?_)
  rintro ⟨I1, x1, f1, J1⟩
  rw [f1]
  show Ends _ _ (2026, lv, [.int x1], h1, 599897, 7298671) _
  refine E_pop rfl rfl ?_
  refine E_al rfl L2 ?_
  refine E_call rfl (g9_anew I1 J1) (chkR (a := 77) I1.1 rfl rfl rfl rfl (by show 0 ≤ 8; decide)) (fun h2 r2 => ?_)
  rintro ⟨I2, f2⟩
  rw [f2]
  show Ends _ _ (2031, lv, [.int x1], h2, 599897, 7298671) _
  refine E_pop rfl rfl ?_
  refine E_goto rfl ?_
  exact K _ I2
set_option maxRecDepth 20000 in
theorem bl_73 {L : Nat} {xs : Nat → Int32} (hL : L ≤ 3072) {h : pm_H} {i : Nat} (hi : i + 6 ≤ L) (lv : List (Nat × Value)) (I : IVQ h) (L0 : pm_get lv 0 = some (.retAddr 0)) (L1 : pm_get lv 1 = some (.ref 0)) (L2 : pm_get lv 2 = some (.ref 77)) (L3 : pm_get lv 3 = some (.int (nJ i))) (K : ∀ h', IVQ h' → Ends (pm_tr (lb_all L xs)) (pm_Rt pm_P 100) (2392, lv, [], h', 599897, 7298671) RQ1) : Ends (pm_tr (lb_all L xs)) (pm_Rt pm_P 100) (2035, lv, [], h, 599897, 7298671) RQ1 := by
  refine E_al rfl L1 ?_
  refine E_alr rfl L0 ?_
  refine E_il rfl L3 ?_
  refine E_ci 1 rfl ci1 ?_
  refine E_bin rfl (nJ_add _ _) ?_
  refine E_sld rfl (by omega) hL ?_
  refine E_alr rfl L0 ?_
  refine E_il rfl L3 ?_
  refine E_ci 2 rfl ci2 ?_
  refine E_bin rfl (nJ_add _ _) ?_
  refine E_sld rfl (by omega) hL ?_
  refine E_call rfl (tQ_int (by decide +kernel) (by decide +kernel) I.2 (top_int (as := [.ref 0, .int (xs ((i + 1))), .int (xs ((i + 2)))]) q885 (by decide +kernel) (by decide +kernel) I.1 ⟨rfl, aI _, aI _, trivial⟩)) (chkR (a := 0) I.1.1 rfl rfl rfl rfl (by show 0 ≤ 8; decide)) (fun h1 r1 => ?_)
  rintro ⟨I1, x1, f1⟩
  rw [f1]
  show Ends _ _ (2049, lv, [.int x1], h1, 599897, 7298671) _
  refine E_pop rfl rfl ?_
  refine E_al rfl L2 ?_
  refine E_alr rfl L0 ?_
  refine E_il rfl L3 ?_
  refine E_ci 1 rfl ci1 ?_
  refine E_bin rfl (nJ_add _ _) ?_
  refine E_sld rfl (by omega) hL ?_
  refine E_alr rfl L0 ?_
  refine E_il rfl L3 ?_
  refine E_ci 2 rfl ci2 ?_
  refine E_bin rfl (nJ_add _ _) ?_
  refine E_sld rfl (by omega) hL ?_
  refine E_call rfl (tQ_int (by decide +kernel) (by decide +kernel) I1.2 (top_int (as := [.ref 77, .int (xs ((i + 1))), .int (xs ((i + 2)))]) q889 (by decide +kernel) (by decide +kernel) I1.1 ⟨rfl, aI _, aI _, trivial⟩)) (chkR (a := 77) I1.1.1 rfl rfl rfl rfl (by show 0 ≤ 8; decide)) (fun h2 r2 => ?_)
  rintro ⟨I2, x2, f2⟩
  rw [f2]
  show Ends _ _ (2064, lv, [.int x2], h2, 599897, 7298671) _
  refine E_pop rfl rfl ?_
  refine E_goto rfl ?_
  exact K _ I2
set_option maxRecDepth 20000 in
theorem bl_74 {L : Nat} {xs : Nat → Int32} (hL : L ≤ 3072) {h : pm_H} {i : Nat} (hi : i + 6 ≤ L) (lv : List (Nat × Value)) (I : IVQ h) (L0 : pm_get lv 0 = some (.retAddr 0)) (L1 : pm_get lv 1 = some (.ref 0)) (L2 : pm_get lv 2 = some (.ref 77)) (L3 : pm_get lv 3 = some (.int (nJ i))) (K : ∀ h', IVQ h' → Ends (pm_tr (lb_all L xs)) (pm_Rt pm_P 100) (2392, lv, [], h', 599897, 7298671) RQ1) : Ends (pm_tr (lb_all L xs)) (pm_Rt pm_P 100) (2068, lv, [], h, 599897, 7298671) RQ1 := by
  refine E_al rfl L1 ?_
  refine E_alr rfl L0 ?_
  refine E_il rfl L3 ?_
  refine E_ci 1 rfl ci1 ?_
  refine E_bin rfl (nJ_add _ _) ?_
  refine E_sld rfl (by omega) hL ?_
  refine E_alr rfl L0 ?_
  refine E_il rfl L3 ?_
  refine E_ci 2 rfl ci2 ?_
  refine E_bin rfl (nJ_add _ _) ?_
  refine E_sld rfl (by omega) hL ?_
  refine E_alr rfl L0 ?_
  refine E_il rfl L3 ?_
  refine E_ci 3 rfl ci3 ?_
  refine E_bin rfl (nJ_add _ _) ?_
  refine E_sld rfl (by omega) hL ?_
  refine E_call rfl (tQ_int (by decide +kernel) (by decide +kernel) I.2 (top_int (as := [.ref 0, .int (xs ((i + 1))), .int (xs ((i + 2))), .int (xs ((i + 3)))]) q891 (by decide +kernel) (by decide +kernel) I.1 ⟨rfl, aI _, aI _, aI _, trivial⟩)) (chkR (a := 0) I.1.1 rfl rfl rfl rfl (by show 0 ≤ 8; decide)) (fun h1 r1 => ?_)
  rintro ⟨I1, x1, f1⟩
  rw [f1]
  show Ends _ _ (2087, lv, [.int x1], h1, 599897, 7298671) _
  refine E_pop rfl rfl ?_
  refine E_al rfl L2 ?_
  refine E_alr rfl L0 ?_
  refine E_il rfl L3 ?_
  refine E_ci 1 rfl ci1 ?_
  refine E_bin rfl (nJ_add _ _) ?_
  refine E_sld rfl (by omega) hL ?_
  refine E_alr rfl L0 ?_
  refine E_il rfl L3 ?_
  refine E_ci 2 rfl ci2 ?_
  refine E_bin rfl (nJ_add _ _) ?_
  refine E_sld rfl (by omega) hL ?_
  refine E_alr rfl L0 ?_
  refine E_il rfl L3 ?_
  refine E_ci 3 rfl ci3 ?_
  refine E_bin rfl (nJ_add _ _) ?_
  refine E_sld rfl (by omega) hL ?_
  refine E_call rfl (tQ_int (by decide +kernel) (by decide +kernel) I1.2 (top_int (as := [.ref 77, .int (xs ((i + 1))), .int (xs ((i + 2))), .int (xs ((i + 3)))]) q894 (by decide +kernel) (by decide +kernel) I1.1 ⟨rfl, aI _, aI _, aI _, trivial⟩)) (chkR (a := 77) I1.1.1 rfl rfl rfl rfl (by show 0 ≤ 8; decide)) (fun h2 r2 => ?_)
  rintro ⟨I2, x2, f2⟩
  rw [f2]
  show Ends _ _ (2107, lv, [.int x2], h2, 599897, 7298671) _
  refine E_pop rfl rfl ?_
  refine E_goto rfl ?_
  exact K _ I2
set_option maxRecDepth 20000 in
theorem bl_75 {L : Nat} {xs : Nat → Int32} (hL : L ≤ 3072) {h : pm_H} {i : Nat} (hi : i + 6 ≤ L) (lv : List (Nat × Value)) (I : IVQ h) (L0 : pm_get lv 0 = some (.retAddr 0)) (L1 : pm_get lv 1 = some (.ref 0)) (L2 : pm_get lv 2 = some (.ref 77)) (L3 : pm_get lv 3 = some (.int (nJ i))) (K : ∀ h', IVQ h' → Ends (pm_tr (lb_all L xs)) (pm_Rt pm_P 100) (2392, lv, [], h', 599897, 7298671) RQ1) : Ends (pm_tr (lb_all L xs)) (pm_Rt pm_P 100) (2111, lv, [], h, 599897, 7298671) RQ1 := by
  refine E_al rfl L1 ?_
  refine E_alr rfl L0 ?_
  refine E_il rfl L3 ?_
  refine E_ci 1 rfl ci1 ?_
  refine E_bin rfl (nJ_add _ _) ?_
  refine E_sld rfl (by omega) hL ?_
  refine E_alr rfl L0 ?_
  refine E_il rfl L3 ?_
  refine E_ci 2 rfl ci2 ?_
  refine E_bin rfl (nJ_add _ _) ?_
  refine E_sld rfl (by omega) hL ?_
  refine E_call rfl (g8_rate I) (chkR (a := 0) I.1.1 rfl rfl rfl rfl (by show 0 ≤ 8; decide)) (fun h1 r1 => ?_)
  rintro ⟨I1, x1, f1, J1⟩
  rw [f1]
  show Ends _ _ (2125, lv, [.int x1], h1, 599897, 7298671) _
  refine E_pop rfl rfl ?_
  refine E_al rfl L2 ?_
  refine E_alr rfl L0 ?_
  refine E_il rfl L3 ?_
  refine E_ci 1 rfl ci1 ?_
  refine E_bin rfl (nJ_add _ _) ?_
  refine E_sld rfl (by omega) hL ?_
  refine E_alr rfl L0 ?_
  refine E_il rfl L3 ?_
  refine E_ci 2 rfl ci2 ?_
  refine E_bin rfl (nJ_add _ _) ?_
  refine E_sld rfl (by omega) hL ?_
  refine E_call rfl (g9_rate I1 J1) (chkR (a := 77) I1.1 rfl rfl rfl rfl (by show 0 ≤ 8; decide)) (fun h2 r2 => ?_)
  rintro ⟨I2, f2⟩
  rw [f2]
  show Ends _ _ (2140, lv, [.int x1], h2, 599897, 7298671) _
  refine E_pop rfl rfl ?_
  refine E_goto rfl ?_
  exact K _ I2
set_option maxRecDepth 20000 in
theorem bl_76 {L : Nat} {xs : Nat → Int32} (hL : L ≤ 3072) {h : pm_H} {i : Nat} (hi : i + 6 ≤ L) (lv : List (Nat × Value)) (I : IVQ h) (L0 : pm_get lv 0 = some (.retAddr 0)) (L1 : pm_get lv 1 = some (.ref 0)) (L2 : pm_get lv 2 = some (.ref 77)) (L3 : pm_get lv 3 = some (.int (nJ i))) (K : ∀ h', IVQ h' → Ends (pm_tr (lb_all L xs)) (pm_Rt pm_P 100) (2392, lv, [], h', 599897, 7298671) RQ1) : Ends (pm_tr (lb_all L xs)) (pm_Rt pm_P 100) (2144, lv, [], h, 599897, 7298671) RQ1 := by
  refine E_al rfl L1 ?_
  refine E_alr rfl L0 ?_
  refine E_il rfl L3 ?_
  refine E_ci 1 rfl ci1 ?_
  refine E_bin rfl (nJ_add _ _) ?_
  refine E_sld rfl (by omega) hL ?_
  refine E_call rfl (g8_count I) (chkR (a := 0) I.1.1 rfl rfl rfl rfl (by show 0 ≤ 8; decide)) (fun h1 r1 => ?_)
  rintro ⟨I1, x1, f1, J1⟩
  rw [f1]
  show Ends _ _ (2153, lv, [.int x1], h1, 599897, 7298671) _
  refine E_pop rfl rfl ?_
  refine E_al rfl L2 ?_
  refine E_alr rfl L0 ?_
  refine E_il rfl L3 ?_
  refine E_ci 1 rfl ci1 ?_
  refine E_bin rfl (nJ_add _ _) ?_
  refine E_sld rfl (by omega) hL ?_
  refine E_call rfl (g9_count I1 J1) (chkR (a := 77) I1.1 rfl rfl rfl rfl (by show 0 ≤ 8; decide)) (fun h2 r2 => ?_)
  rintro ⟨I2, f2⟩
  rw [f2]
  show Ends _ _ (2163, lv, [.int x1], h2, 599897, 7298671) _
  refine E_pop rfl rfl ?_
  refine E_goto rfl ?_
  exact K _ I2
set_option maxRecDepth 20000 in
theorem bl_77 {L : Nat} {xs : Nat → Int32} (hL : L ≤ 3072) {h : pm_H} {i : Nat} (hi : i + 6 ≤ L) (lv : List (Nat × Value)) (I : IVQ h) (L0 : pm_get lv 0 = some (.retAddr 0)) (L1 : pm_get lv 1 = some (.ref 0)) (L2 : pm_get lv 2 = some (.ref 77)) (L3 : pm_get lv 3 = some (.int (nJ i))) (K : ∀ h', IVQ h' → Ends (pm_tr (lb_all L xs)) (pm_Rt pm_P 100) (2392, lv, [], h', 599897, 7298671) RQ1) : Ends (pm_tr (lb_all L xs)) (pm_Rt pm_P 100) (2167, lv, [], h, 599897, 7298671) RQ1 := by
  refine E_al rfl L1 ?_
  refine E_alr rfl L0 ?_
  refine E_il rfl L3 ?_
  refine E_ci 1 rfl ci1 ?_
  refine E_bin rfl (nJ_add _ _) ?_
  refine E_sld rfl (by omega) hL ?_
  refine E_call rfl (g8_image I) (chkR (a := 0) I.1.1 rfl rfl rfl rfl (by show 0 ≤ 8; decide)) (fun h1 r1 => ?_)
  rintro ⟨I1, x1, f1, J1⟩
  rw [f1]
  show Ends _ _ (2176, lv, [.int x1], h1, 599897, 7298671) _
  refine E_pop rfl rfl ?_
  refine E_al rfl L2 ?_
  refine E_alr rfl L0 ?_
  refine E_il rfl L3 ?_
  refine E_ci 1 rfl ci1 ?_
  refine E_bin rfl (nJ_add _ _) ?_
  refine E_sld rfl (by omega) hL ?_
  refine E_call rfl (g9_image I1 J1) (chkR (a := 77) I1.1 rfl rfl rfl rfl (by show 0 ≤ 8; decide)) (fun h2 r2 => ?_)
  rintro ⟨I2, f2⟩
  rw [f2]
  show Ends _ _ (2186, lv, [.int x1], h2, 599897, 7298671) _
  refine E_pop rfl rfl ?_
  refine E_goto rfl ?_
  exact K _ I2
set_option maxRecDepth 20000 in
theorem bl_78 {L : Nat} {xs : Nat → Int32} (hL : L ≤ 3072) {h : pm_H} {i : Nat} (hi : i + 6 ≤ L) (lv : List (Nat × Value)) (I : IVQ h) (L0 : pm_get lv 0 = some (.retAddr 0)) (L1 : pm_get lv 1 = some (.ref 0)) (L2 : pm_get lv 2 = some (.ref 77)) (L3 : pm_get lv 3 = some (.int (nJ i))) (K : ∀ h', IVQ h' → Ends (pm_tr (lb_all L xs)) (pm_Rt pm_P 100) (2392, lv, [], h', 599897, 7298671) RQ1) : Ends (pm_tr (lb_all L xs)) (pm_Rt pm_P 100) (2190, lv, [], h, 599897, 7298671) RQ1 := by
  refine E_al rfl L1 ?_
  refine E_alr rfl L0 ?_
  refine E_il rfl L3 ?_
  refine E_ci 1 rfl ci1 ?_
  refine E_bin rfl (nJ_add _ _) ?_
  refine E_sld rfl (by omega) hL ?_
  refine E_call rfl (g8_back I) (chkR (a := 0) I.1.1 rfl rfl rfl rfl (by show 0 ≤ 8; decide)) (fun h1 r1 => ?_)
  rintro ⟨I1, x1, f1, J1⟩
  rw [f1]
  show Ends _ _ (2199, lv, [.int x1], h1, 599897, 7298671) _
  refine E_pop rfl rfl ?_
  refine E_al rfl L2 ?_
  refine E_alr rfl L0 ?_
  refine E_il rfl L3 ?_
  refine E_ci 1 rfl ci1 ?_
  refine E_bin rfl (nJ_add _ _) ?_
  refine E_sld rfl (by omega) hL ?_
  refine E_call rfl (g9_back I1 J1) (chkR (a := 77) I1.1 rfl rfl rfl rfl (by show 0 ≤ 8; decide)) (fun h2 r2 => ?_)
  rintro ⟨I2, f2⟩
  rw [f2]
  show Ends _ _ (2209, lv, [.int x1], h2, 599897, 7298671) _
  refine E_pop rfl rfl ?_
  refine E_goto rfl ?_
  exact K _ I2
set_option maxRecDepth 20000 in
theorem bl_79 {L : Nat} {xs : Nat → Int32} (hL : L ≤ 3072) {h : pm_H} {i : Nat} (hi : i + 6 ≤ L) (lv : List (Nat × Value)) (I : IVQ h) (L0 : pm_get lv 0 = some (.retAddr 0)) (L1 : pm_get lv 1 = some (.ref 0)) (L2 : pm_get lv 2 = some (.ref 77)) (L3 : pm_get lv 3 = some (.int (nJ i))) (K : ∀ h', IVQ h' → Ends (pm_tr (lb_all L xs)) (pm_Rt pm_P 100) (2392, lv, [], h', 599897, 7298671) RQ1) : Ends (pm_tr (lb_all L xs)) (pm_Rt pm_P 100) (2213, lv, [], h, 599897, 7298671) RQ1 := by
  refine E_al rfl L1 ?_
  refine E_alr rfl L0 ?_
  refine E_il rfl L3 ?_
  refine E_ci 1 rfl ci1 ?_
  refine E_bin rfl (nJ_add _ _) ?_
  refine E_sld rfl (by omega) hL ?_
  refine E_alr rfl L0 ?_
  refine E_il rfl L3 ?_
  refine E_ci 2 rfl ci2 ?_
  refine E_bin rfl (nJ_add _ _) ?_
  refine E_sld rfl (by omega) hL ?_
  refine E_alr rfl L0 ?_
  refine E_il rfl L3 ?_
  refine E_ci 3 rfl ci3 ?_
  refine E_bin rfl (nJ_add _ _) ?_
  refine E_sld rfl (by omega) hL ?_
  refine E_call rfl (g8_row I) (chkR (a := 0) I.1.1 rfl rfl rfl rfl (by show 0 ≤ 8; decide)) (fun h1 r1 => ?_)
  rintro ⟨I1, x1, f1, J1⟩
  rw [f1]
  show Ends _ _ (2232, lv, [.int x1], h1, 599897, 7298671) _
  refine E_pop rfl rfl ?_
  refine E_al rfl L2 ?_
  refine E_alr rfl L0 ?_
  refine E_il rfl L3 ?_
  refine E_ci 1 rfl ci1 ?_
  refine E_bin rfl (nJ_add _ _) ?_
  refine E_sld rfl (by omega) hL ?_
  refine E_alr rfl L0 ?_
  refine E_il rfl L3 ?_
  refine E_ci 2 rfl ci2 ?_
  refine E_bin rfl (nJ_add _ _) ?_
  refine E_sld rfl (by omega) hL ?_
  refine E_alr rfl L0 ?_
  refine E_il rfl L3 ?_
  refine E_ci 3 rfl ci3 ?_
  refine E_bin rfl (nJ_add _ _) ?_
  refine E_sld rfl (by omega) hL ?_
  refine E_call rfl (g9_row I1 J1) (chkR (a := 77) I1.1 rfl rfl rfl rfl (by show 0 ≤ 8; decide)) (fun h2 r2 => ?_)
  rintro ⟨I2, f2⟩
  rw [f2]
  show Ends _ _ (2252, lv, [.int x1], h2, 599897, 7298671) _
  refine E_pop rfl rfl ?_
  refine E_goto rfl ?_
  exact K _ I2
set_option maxRecDepth 20000 in
theorem bl_80 {L : Nat} {xs : Nat → Int32} (hL : L ≤ 3072) {h : pm_H} {i : Nat} (hi : i + 6 ≤ L) (lv : List (Nat × Value)) (I : IVQ h) (L0 : pm_get lv 0 = some (.retAddr 0)) (L1 : pm_get lv 1 = some (.ref 0)) (L2 : pm_get lv 2 = some (.ref 77)) (L3 : pm_get lv 3 = some (.int (nJ i))) (K : ∀ h', IVQ h' → Ends (pm_tr (lb_all L xs)) (pm_Rt pm_P 100) (2392, lv, [], h', 599897, 7298671) RQ1) : Ends (pm_tr (lb_all L xs)) (pm_Rt pm_P 100) (2256, lv, [], h, 599897, 7298671) RQ1 := by
  refine E_al rfl L1 ?_
  refine E_alr rfl L0 ?_
  refine E_il rfl L3 ?_
  refine E_ci 1 rfl ci1 ?_
  refine E_bin rfl (nJ_add _ _) ?_
  refine E_sld rfl (by omega) hL ?_
  refine E_alr rfl L0 ?_
  refine E_il rfl L3 ?_
  refine E_ci 2 rfl ci2 ?_
  refine E_bin rfl (nJ_add _ _) ?_
  refine E_sld rfl (by omega) hL ?_
  refine E_alr rfl L0 ?_
  refine E_il rfl L3 ?_
  refine E_ci 3 rfl ci3 ?_
  refine E_bin rfl (nJ_add _ _) ?_
  refine E_sld rfl (by omega) hL ?_
  refine E_i2l rfl ?_
  refine E_ci 32 rfl ci32 ?_
  refine E_lsh rfl ?_
  refine E_alr rfl L0 ?_
  refine E_il rfl L3 ?_
  refine E_ci 4 rfl ci4 ?_
  refine E_bin rfl (nJ_add _ _) ?_
  refine E_sld rfl (by omega) hL ?_
  refine E_i2l rfl ?_
  refine E_c rfl ?_
  refine E_lbin rfl ?_
  refine E_lbin rfl ?_
  refine E_call rfl (g8_write I) (chkR (a := 0) I.1.1 rfl rfl rfl rfl (by show 0 ≤ 8; decide)) (fun h1 r1 => ?_)
  rintro ⟨I1, x1, f1, J1⟩
  rw [f1]
  show Ends _ _ (2290, lv, [.int x1], h1, 599897, 7298671) _
  refine E_pop rfl rfl ?_
  refine E_al rfl L2 ?_
  refine E_alr rfl L0 ?_
  refine E_il rfl L3 ?_
  refine E_ci 1 rfl ci1 ?_
  refine E_bin rfl (nJ_add _ _) ?_
  refine E_sld rfl (by omega) hL ?_
  refine E_alr rfl L0 ?_
  refine E_il rfl L3 ?_
  refine E_ci 2 rfl ci2 ?_
  refine E_bin rfl (nJ_add _ _) ?_
  refine E_sld rfl (by omega) hL ?_
  refine E_alr rfl L0 ?_
  refine E_il rfl L3 ?_
  refine E_ci 3 rfl ci3 ?_
  refine E_bin rfl (nJ_add _ _) ?_
  refine E_sld rfl (by omega) hL ?_
  refine E_i2l rfl ?_
  refine E_ci 32 rfl ci32 ?_
  refine E_lsh rfl ?_
  refine E_alr rfl L0 ?_
  refine E_il rfl L3 ?_
  refine E_ci 4 rfl ci4 ?_
  refine E_bin rfl (nJ_add _ _) ?_
  refine E_sld rfl (by omega) hL ?_
  refine E_i2l rfl ?_
  refine E_c rfl ?_
  refine E_lbin rfl ?_
  refine E_lbin rfl ?_
  refine E_call rfl (g9_write I1 J1) (chkR (a := 77) I1.1 rfl rfl rfl rfl (by show 0 ≤ 8; decide)) (fun h2 r2 => ?_)
  rintro ⟨I2, f2⟩
  rw [f2]
  show Ends _ _ (2325, lv, [.int x1], h2, 599897, 7298671) _
  refine E_pop rfl rfl ?_
  refine E_goto rfl ?_
  exact K _ I2
set_option maxRecDepth 20000 in
theorem bl_81 {L : Nat} {xs : Nat → Int32} (hL : L ≤ 3072) {h : pm_H} {i : Nat} (hi : i + 6 ≤ L) (lv : List (Nat × Value)) (I : IVQ h) (L0 : pm_get lv 0 = some (.retAddr 0)) (L1 : pm_get lv 1 = some (.ref 0)) (L2 : pm_get lv 2 = some (.ref 77)) (L3 : pm_get lv 3 = some (.int (nJ i))) (K : ∀ h', IVQ h' → Ends (pm_tr (lb_all L xs)) (pm_Rt pm_P 100) (2392, lv, [], h', 599897, 7298671) RQ1) : Ends (pm_tr (lb_all L xs)) (pm_Rt pm_P 100) (2329, lv, [], h, 599897, 7298671) RQ1 := by
  refine E_al rfl L1 ?_
  refine E_alr rfl L0 ?_
  refine E_il rfl L3 ?_
  refine E_ci 1 rfl ci1 ?_
  refine E_bin rfl (nJ_add _ _) ?_
  refine E_sld rfl (by omega) hL ?_
  refine E_alr rfl L0 ?_
  refine E_il rfl L3 ?_
  refine E_ci 2 rfl ci2 ?_
  refine E_bin rfl (nJ_add _ _) ?_
  refine E_sld rfl (by omega) hL ?_
  refine E_alr rfl L0 ?_
  refine E_il rfl L3 ?_
  refine E_ci 3 rfl ci3 ?_
  refine E_bin rfl (nJ_add _ _) ?_
  refine E_sld rfl (by omega) hL ?_
  refine E_alr rfl L0 ?_
  refine E_il rfl L3 ?_
  refine E_ci 4 rfl ci4 ?_
  refine E_bin rfl (nJ_add _ _) ?_
  refine E_sld rfl (by omega) hL ?_
  refine E_alr rfl L0 ?_
  refine E_il rfl L3 ?_
  refine E_ci 5 rfl ci5 ?_
  refine E_bin rfl (nJ_add _ _) ?_
  refine E_sld rfl (by omega) hL ?_
  refine E_call rfl (g8_paste I) (chkR (a := 0) I.1.1 rfl rfl rfl rfl (by show 0 ≤ 8; decide)) (fun h1 r1 => ?_)
  rintro ⟨I1, x1, f1, J1⟩
  rw [f1]
  show Ends _ _ (2358, lv, [.int x1], h1, 599897, 7298671) _
  refine E_pop rfl rfl ?_
  refine E_al rfl L2 ?_
  refine E_alr rfl L0 ?_
  refine E_il rfl L3 ?_
  refine E_ci 1 rfl ci1 ?_
  refine E_bin rfl (nJ_add _ _) ?_
  refine E_sld rfl (by omega) hL ?_
  refine E_alr rfl L0 ?_
  refine E_il rfl L3 ?_
  refine E_ci 2 rfl ci2 ?_
  refine E_bin rfl (nJ_add _ _) ?_
  refine E_sld rfl (by omega) hL ?_
  refine E_alr rfl L0 ?_
  refine E_il rfl L3 ?_
  refine E_ci 3 rfl ci3 ?_
  refine E_bin rfl (nJ_add _ _) ?_
  refine E_sld rfl (by omega) hL ?_
  refine E_alr rfl L0 ?_
  refine E_il rfl L3 ?_
  refine E_ci 4 rfl ci4 ?_
  refine E_bin rfl (nJ_add _ _) ?_
  refine E_sld rfl (by omega) hL ?_
  refine E_alr rfl L0 ?_
  refine E_il rfl L3 ?_
  refine E_ci 5 rfl ci5 ?_
  refine E_bin rfl (nJ_add _ _) ?_
  refine E_sld rfl (by omega) hL ?_
  refine E_call rfl (g9_paste I1 J1) (chkR (a := 77) I1.1 rfl rfl rfl rfl (by show 0 ≤ 8; decide)) (fun h2 r2 => ?_)
  rintro ⟨I2, f2⟩
  rw [f2]
  show Ends _ _ (2388, lv, [.int x1], h2, 599897, 7298671) _
  refine E_pop rfl rfl ?_
  refine E_goto rfl ?_
  exact K _ I2
end
