section
section WSH
variable {h h2 : pm_H} {d : Nat}
theorem LY9_of {g : pm_H} (k : K9 h g) (hh2 : HH h2) (f : fr_g YM g h2) (w : ∀ c, c < gn g 84 3 → gn h2 89 c = W9 g c) : LY9 h h2 := by
  refine ⟨hh2, (fr_gn f (rg_no rfl _)).trans (P9_K k), (fr_gn f (rg_no rfl _)).trans (N9_K k), fun c hc => ?_⟩
  rw [w c (by rw [show gn g 84 3 = N9 h from N9_K k]; exact hc), W9_K k]
end WSH
end
section
/-! breaks of both (written by gen_u70.py; wants u69) -/
section BRK
variable {h h2 : pm_H} {d : Nat}
theorem sp_rowRefusal8 {s : Bool} (hh : HH h) (F : CW8 h) (B : B9 h) : Sp (d + 3) 172 h [.ref 0, .int (zb (s = true))] (fun h' r => h' = h ∧ r = some (.int (if s = true then (if LW9 h = true then 0 else -1) else -2))) := by
  refine Sp_of aiX8_rowRefusal rfl rfl rfl ?_
  have L0 : pm_get (lv_args 0 [.ref 0, .int (zb (s = true))]) 0 = some (.ref 0) := rfl
  have L1 : pm_get (lv_args 0 [.ref 0, .int (zb (s = true))]) 1 = some (.int (zb (s = true))) := rfl
  generalize lv_args 0 [.ref 0, .int (zb (s = true))] = lv at L0 L1 ⊢
  refine E_il rfl L1 ?_
  by_cases b : s = true
  · refine E_ifT rfl (by rw [zb_T b]; rfl) ?_
    rw [if_pos b]
    refine E_al rfl L0 ?_
    refine E_call rfl (sp_isLawful8 (d := d) hh F B) (chkO (a := 0) hh rfl rfl rfl rfl (by show 0 ≤ 8; decide)) (fun h1 r1 => ?_)
    rintro ⟨e1, f1⟩
    rw [e1, f1]
    by_cases c : LW9 h = true
    · refine E_ifF rfl (by rw [zb_T c]; rfl) ?_
      rw [if_pos c]
      refine E_c rfl ?_
      refine E_goto rfl ?_
      exact E_rti rfl ⟨rfl, rfl⟩
    · refine E_ifT rfl (by rw [zb_F c]; rfl) ?_
      rw [if_neg c]
      refine E_c rfl ?_
      exact E_rti rfl ⟨rfl, rfl⟩
  · refine E_ifF rfl (by rw [zb_F b]; rfl) ?_
    rw [if_neg b]
    refine E_c rfl ?_
    exact E_rti rfl ⟨rfl, rfl⟩
end BRK
section Q_breaks
variable {h : pm_H} {d : Nat}
end Q_breaks
end
section
/-! the tree that hangs by wishes: one pure law; it grows by both (wants PRK, u69) -/
noncomputable abbrev HG : Type := (Nat → Nat) × (Nat → Nat) × Nat
noncomputable def hstep (W : Nat → Nat) (p c : Nat) (s : HG) : HG := if W c = p then (fup s.1 s.2.2 (c + 1), fup s.2.1 (c + 1) (s.1 (p - 1)), s.2.2 + 1) else s
noncomputable def hI (W : Nat → Nat) (p : Nat) (s : HG) : Nat → HG
  | 0 => s
  | c + 1 => hstep W p c (hI W p s c)
noncomputable def hB (W : Nat → Nat) (n : Nat) : Nat → HG
  | 0 => (fun _ => 0, fun _ => 0, 1)
  | q + 1 => hI W (q + 1) (hB W n q) n
theorem hI_c {W : Nat → Nat} {p : Nat} {s : HG} : ∀ c, (hI W p s c).2.2 = s.2.2 + ce W p c
  | 0 => rfl
  | c + 1 => by
    show (hstep W p c (hI W p s c)).2.2 = _
    unfold hstep
    by_cases e : W c = p
    · rw [if_pos e, ce_T e]
      show (hI W p s c).2.2 + 1 = _
      rw [hI_c c]; omega
    · rw [if_neg e, ce_F e, hI_c c]
theorem hI_lo {W : Nat → Nat} {p : Nat} {s : HG} {i : Nat} (h : i < s.2.2) : ∀ c, (hI W p s c).1 i = s.1 i
  | 0 => rfl
  | c + 1 => by
    show (hstep W p c (hI W p s c)).1 i = _
    have l : s.2.2 ≤ (hI W p s c).2.2 := by rw [hI_c c]; omega
    unfold hstep
    by_cases e : W c = p
    · rw [if_pos e]
      show fup (hI W p s c).1 (hI W p s c).2.2 (c + 1) i = _
      rw [fup_n (by omega), hI_lo h c]
    · rw [if_neg e, hI_lo h c]
/-- a car that has come by then -/
noncomputable def hPr (W : Nat → Nat) (q c0 c : Nat) : Prop := W c < q + 1 ∨ (W c = q + 1 ∧ c < c0)
noncomputable def hV (W : Nat → Nat) (n q c0 : Nat) (s : HG) : Prop := s.2.2 = 1 + cw W q n + ce W (q + 1) c0 ∧ s.1 0 = 0 ∧ (∀ i, 1 ≤ i → i < s.2.2 → ∃ c, c < n ∧ s.1 i = c + 1 ∧ hPr W q c0 c ∧ ∃ j, j < i ∧ s.2.1 (c + 1) = s.1 j) ∧ ∀ c, c < n → hPr W q c0 c → ∃ i, 1 ≤ i ∧ i < s.2.2 ∧ s.1 i = c + 1
theorem hV_step {W : Nat → Nat} {n q c : Nat} {s : HG} (hc : c < n) (lw : q < 1 + cw W q n) (V : hV W n q c s) : hV W n q (c + 1) (hstep W (q + 1) c s) := by
  obtain ⟨v1, v2, v3, v4⟩ := V
  unfold hstep
  by_cases e : W c = q + 1
  · rw [if_pos e]
    refine ⟨by show s.2.2 + 1 = _; rw [ce_T e]; omega, ?_, fun i i1 i2 => ?_, fun c' hc' p' => ?_⟩
    · show fup s.1 s.2.2 (c + 1) 0 = 0
      rw [fup_n (by omega)]; exact v2
    · by_cases a : i = s.2.2
      · refine ⟨c, hc, by rw [a]; exact fup_s _ _ _, .inr ⟨e, by omega⟩, q, by omega, ?_⟩
        show fup s.2.1 (c + 1) (s.1 (q + 1 - 1)) (c + 1) = fup s.1 s.2.2 (c + 1) q
        rw [fup_s, fup_n (by omega)]
        rfl
      · have i2 : i < s.2.2 + 1 := i2
        obtain ⟨c', h1, h2, h3, j, h4, h5⟩ := v3 i i1 (by omega)
        have ne : c' ≠ c := fun z => by
          rw [z] at h3
          rcases h3 with h3 | ⟨_, h3⟩ <;> omega
        refine ⟨c', h1, ?_, ?_, j, h4, ?_⟩
        · show fup s.1 s.2.2 (c + 1) i = c' + 1
          rw [fup_n a]; exact h2
        · rcases h3 with h3 | ⟨h3, h6⟩
          · exact .inl h3
          · exact .inr ⟨h3, by omega⟩
        · show fup s.2.1 (c + 1) (s.1 (q + 1 - 1)) (c' + 1) = fup s.1 s.2.2 (c + 1) j
          rw [fup_n (by omega), fup_n (by omega)]; exact h5
    · by_cases a : c' = c
      · exact ⟨s.2.2, by omega, by show s.2.2 < s.2.2 + 1; omega, by rw [a]; exact fup_s _ _ _⟩
      · obtain ⟨i, i1, i2, i3⟩ := v4 c' hc' (by
          rcases p' with h3 | ⟨h3, h6⟩
          · exact .inl h3
          · exact .inr ⟨h3, by omega⟩)
        refine ⟨i, i1, by show i < s.2.2 + 1; omega, ?_⟩
        show fup s.1 s.2.2 (c + 1) i = c' + 1
        rw [fup_n (by omega)]; exact i3
  · rw [if_neg e]
    refine ⟨by rw [ce_F e]; exact v1, v2, fun i i1 i2 => ?_, fun c' hc' p' => v4 c' hc' ?_⟩
    · obtain ⟨c', h1, h2, h3, h4⟩ := v3 i i1 i2
      refine ⟨c', h1, h2, ?_, h4⟩
      rcases h3 with h3 | ⟨h3, h6⟩
      · exact .inl h3
      · exact .inr ⟨h3, by omega⟩
    · rcases p' with h3 | ⟨h3, h6⟩
      · exact .inl h3
      · refine .inr ⟨h3, ?_⟩
        have : c' ≠ c := fun z => e (by rw [← z]; exact h3)
        omega
theorem hV_next {W : Nat → Nat} {n q : Nat} {s : HG} (V : hV W n q n s) : hV W n (q + 1) 0 s := by
  obtain ⟨v1, v2, v3, v4⟩ := V
  refine ⟨by rw [v1, cw_succ]; show _ = _ + 0; omega, v2, fun i i1 i2 => ?_, fun c' hc' p' => v4 c' hc' ?_⟩
  · obtain ⟨c', h1, h2, h3, h4⟩ := v3 i i1 i2
    refine ⟨c', h1, h2, .inl ?_, h4⟩
    rcases h3 with h3 | ⟨h3, _⟩ <;> omega
  · rcases p' with h3 | ⟨_, h3⟩
    · by_cases e : W c' = q + 1
      · exact .inr ⟨e, hc'⟩
      · exact .inl (by omega)
    · omega
theorem hV_I {W : Nat → Nat} {n q : Nat} {s : HG} (lw : q < 1 + cw W q n) (V : hV W n q 0 s) : ∀ {c : Nat}, c ≤ n → hV W n q c (hI W (q + 1) s c)
  | 0, _ => V
  | c + 1, h => hV_step (by omega) lw (hV_I lw V (by omega))
theorem hV_B {W : Nat → Nat} {n : Nat} (w1 : ∀ c, c < n → 1 ≤ W c) (lw : ∀ q, 1 ≤ q → q ≤ n → q ≤ cw W q n) : ∀ {q : Nat}, q ≤ n → hV W n q 0 (hB W n q)
  | 0, _ => by
    refine ⟨?_, rfl, fun i i1 i2 => ?_, fun c hc p => ?_⟩
    · rw [cw_none (fun c hc => by have := w1 c hc; omega)]; rfl
    · have : i < 1 := i2
      omega
    · have := w1 c hc
      rcases p with h3 | ⟨_, h3⟩ <;> omega
  | q + 1, h => hV_next (hV_I (by
      rcases Nat.eq_zero_or_pos q with z | z
      · omega
      · have := lw q z (by omega); omega) (hV_B w1 lw (by omega)) (Nat.le_refl n))
theorem hV_all {W : Nat → Nat} {n : Nat} (wb : ∀ c, c < n → 1 ≤ W c ∧ W c ≤ n) : cw W n n = n := by
  have : ∀ m, m ≤ n → cw W n m = m := by
    intro m
    induction m with
    | zero => intro _; rfl
    | succ m ih =>
      intro h
      rw [cw_T (wb m (by omega)).2, ih (by omega)]
  exact this n (Nat.le_refl n)
/-- a tree in two rows of an object: nodes by their order, parents -/
noncomputable def TRX (A B n : Nat) (o p : Nat → Nat) (h : pm_H) : Prop := (∀ i, i ≤ n → gi h B i = nJ (o i)) ∧ ∀ v, 1 ≤ v → v ≤ n → gi h A v = nJ (p v)
/-- the same while it grows -/
noncomputable def TRH (A B n q c0 : Nat) (W : Nat → Nat) (s : HG) (h : pm_H) : Prop := (∀ i, i < s.2.2 → gi h B i = nJ (s.1 i)) ∧ ∀ c, c < n → hPr W q c0 c → gi h A (c + 1) = nJ (s.2.1 (c + 1))
theorem TRH_skip {A B n q c : Nat} {W : Nat → Nat} {s : HG} {h : pm_H} (e : ¬ W c = q + 1) (T : TRH A B n q c W s h) : TRH A B n q (c + 1) W (hstep W (q + 1) c s) h := by
  unfold hstep
  rw [if_neg e]
  refine ⟨T.1, fun c' hc' p' => T.2 c' hc' ?_⟩
  rcases p' with h3 | ⟨h3, h6⟩
  · exact .inl h3
  · refine .inr ⟨h3, ?_⟩
    have : c' ≠ c := fun z => e (by rw [← z]; exact h3)
    omega
theorem TRH_add {A B n q c : Nat} {W : Nat → Nat} {s : HG} {h h' : pm_H} (e : W c = q + 1) (T : TRH A B n q c W s h) (b1 : gi h' B s.2.2 = nJ (c + 1)) (b2 : ∀ i, i ≠ s.2.2 → gi h' B i = gi h B i) (a1 : gi h' A (c + 1) = nJ (s.1 q)) (a2 : ∀ i, i ≠ c + 1 → gi h' A i = gi h A i) : TRH A B n q (c + 1) W (hstep W (q + 1) c s) h' := by
  unfold hstep
  rw [if_pos e]
  refine ⟨fun i hi => ?_, fun c' hc' p' => ?_⟩
  · show gi h' B i = nJ (fup s.1 s.2.2 (c + 1) i)
    have hi : i < s.2.2 + 1 := hi
    by_cases a : i = s.2.2
    · rw [a, fup_s]; exact b1
    · rw [fup_n a, b2 i a]; exact T.1 i (by omega)
  · show gi h' A (c' + 1) = nJ (fup s.2.1 (c + 1) (s.1 (q + 1 - 1)) (c' + 1))
    by_cases a : c' = c
    · rw [a, fup_s]; exact a1
    · rw [fup_n (by omega), a2 _ (by omega)]
      refine T.2 c' hc' ?_
      rcases p' with h3 | ⟨h3, h6⟩
      · exact .inl h3
      · exact .inr ⟨h3, by omega⟩
theorem TRH_next {A B n q : Nat} {W : Nat → Nat} {s : HG} {h : pm_H} (T : TRH A B n q n W s h) : TRH A B n (q + 1) 0 W s h := by
  refine ⟨T.1, fun c' hc' p' => T.2 c' hc' ?_⟩
  rcases p' with h3 | ⟨_, h3⟩
  · by_cases e : W c' = q + 1
    · exact .inr ⟨e, hc'⟩
    · exact .inl (by omega)
  · omega
theorem TRH_end {A B n : Nat} {W : Nat → Nat} {h : pm_H} (wb : ∀ c, c < n → 1 ≤ W c ∧ W c ≤ n) (V : hV W n n 0 (hB W n n)) (T : TRH A B n n 0 W (hB W n n) h) : TRX A B n (hB W n n).1 (hB W n n).2.1 h := by
  have e : (hB W n n).2.2 = 1 + n := by rw [V.1, hV_all wb]; show 1 + n + 0 = _; omega
  refine ⟨fun i hi => T.1 i (by omega), fun v v1 vn => ?_⟩
  have := T.2 (v - 1) (by omega) (.inl (by have := (wb (v - 1) (by omega)).2; omega))
  rw [show v - 1 + 1 = v by omega] at this
  exact this
/-- it is a tree: from each node on it goes to 0 -/
theorem hB_dep {W : Nat → Nat} {n : Nat} (wb : ∀ c, c < n → 1 ≤ W c ∧ W c ≤ n) (V : hV W n n 0 (hB W n n)) : ∀ v, 1 ≤ v → v ≤ n → dep (hB W n n).2.1 n v ∧ (hB W n n).2.1 v ≤ n := by
  have e : (hB W n n).2.2 = 1 + n := by rw [V.1, hV_all wb]; show 1 + n + 0 = _; omega
  generalize hB W n n = s at V e ⊢
  obtain ⟨-, v2, v3, v4⟩ := V
  have dp : ∀ i, i ≤ n → dep s.2.1 i (s.1 i) ∧ s.1 i ≤ n := by
    intro i
    induction i using Nat.strongRecOn with
    | _ i ih =>
      intro hi
      by_cases z : i = 0
      · rw [z, v2]; exact ⟨rfl, Nat.zero_le n⟩
      · obtain ⟨c, h1, h2, -, j, h4, h5⟩ := v3 i (by omega) (by omega)
        have dj := ih j h4 (by omega)
        obtain ⟨k, rfl⟩ : ∃ k, i = k + 1 := ⟨i - 1, by omega⟩
        refine ⟨?_, by omega⟩
        rw [h2]
        refine .inr ?_
        rw [h5]
        exact dep_le dj.1 (by omega)
  intro v v1 vn
  obtain ⟨i, i1, i2, i3⟩ := v4 (v - 1) (by omega) (.inl (by have := (wb (v - 1) (by omega)).2; omega))
  rw [show v - 1 + 1 = v by omega] at i3
  have d := dp i (by omega)
  rw [i3] at d
  refine ⟨dep_le d.1 (by omega), ?_⟩
  obtain ⟨c, h1, h2, -, j, h4, h5⟩ := v3 i i1 i2
  rw [show c + 1 = v by omega] at h5
  rw [h5]
  exact (dp j (by omega)).2
end
