section
section WSH
variable {h h2 : pm_H} {d : Nat}
theorem LW9_K {h' : pm_H} (k : K9 h h') : LW9 h' = LW9 h := by unfold LW9; rw [N9_K k, P9_K k, W9_K k]
theorem wu_loop {p : Nat} (hh : HH h) (F : CW8 h) (B : B9 h) (hp : p < 1000) (j : Nat) : ∀ {c : Nat} (lv : List (Nat × Value)), c + j = N9 h → pm_get lv 0 = some (.ref 0) → pm_get lv 1 = some (.int (nJ p)) → pm_get lv 2 = some (.int (nJ (cw (W9 h) p c))) → pm_get lv 3 = some (.int (nJ c)) → Ends (pm_at tX8_wishesUpTo) (pm_Rt pm_P d) (4, lv, [], h, 0, 0) (fun h' r => h' = h ∧ r = some (.int (nJ (cw (W9 h) p (N9 h))))) := by
  obtain ⟨f4, f0, f17⟩ := F
  obtain ⟨-, p8, n8⟩ := g9s hh
  induction j with
  | zero =>
    intro c lv hj L0 L1 L2 L3
    refine E_il rfl L3 ?_
    refine E_al rfl L0 ?_
    refine E_ogr (q := 15) rfl hh rfl rfl ?_
    refine E_ogf (q := (0, 8)) rfl hh rfl rfl f4 ?_
    refine E_icT rfl (decide_eq_true ((nJ_le (by omega) (by omega)).mpr (by omega))) ?_
    refine E_il rfl L2 ?_
    have e : c = N9 h := by omega
    exact E_rti rfl ⟨rfl, by rw [e]⟩
  | succ j ih =>
    intro c lv hj L0 L1 L2 L3
    have hc : c < N9 h := by omega
    have wb := (B c hc).2
    refine E_il rfl L3 ?_
    refine E_al rfl L0 ?_
    refine E_ogr (q := 15) rfl hh rfl rfl ?_
    refine E_ogf (q := (0, 8)) rfl hh rfl rfl f4 ?_
    refine E_icF rfl (decide_eq_false (fun z => absurd ((nJ_le (by omega) (by omega)).mp z) (by omega))) ?_
    refine E_al rfl L0 ?_
    refine E_ogr (q := 15) rfl hh rfl rfl ?_
    refine E_ogr (q := 17) rfl hh rfl rfl ?_
    refine E_il rfl L3 ?_
    refine E_ial rfl hh rfl (by omega) (by decide) (f17 c hc) ?_
    refine E_il rfl L1 ?_
    by_cases b : W9 h c ≤ p
    · refine E_icF rfl (decide_eq_false (fun z => absurd ((nJ_lt (by omega) (by omega)).mp z) (by omega))) ?_
      refine E_inc rfl L2 (nJ_inc _) (fun lv1 K2 kp => ?_)
      refine E_inc rfl (kp 3 _ (by decide) rfl L3) (nJ_inc _) (fun lv2 K3 kp2 => ?_)
      refine E_goto rfl ?_
      exact ih (c := c + 1) lv2 (by omega) (kp2 0 _ (by decide) rfl (kp 0 _ (by decide) rfl L0)) (kp2 1 _ (by decide) rfl (kp 1 _ (by decide) rfl L1)) (by rw [cw_T b]; exact kp2 2 _ (by decide) rfl K2) K3
    · refine E_icT rfl (decide_eq_true ((nJ_lt (by omega) (by omega)).mpr (by omega))) ?_
      refine E_inc rfl L3 (nJ_inc _) (fun lv2 K3 kp2 => ?_)
      refine E_goto rfl ?_
      exact ih (c := c + 1) lv2 (by omega) (kp2 0 _ (by decide) rfl L0) (kp2 1 _ (by decide) rfl L1) (by rw [cw_F b]; exact kp2 2 _ (by decide) rfl L2) K3
theorem sp_wishesUpTo8 {p : Nat} (hh : HH h) (F : CW8 h) (B : B9 h) (hp : p < 1000) : Sp (d + 1) 200 h [.ref 0, .int (nJ p)] (fun h' r => h' = h ∧ r = some (.int (nJ (cw (W9 h) p (N9 h))))) := by
  refine Sp_of aiX8_wishesUpTo rfl rfl rfl ?_
  have L0 : pm_get (lv_args 0 [.ref 0, .int (nJ p)]) 0 = some (.ref 0) := rfl
  have L1 : pm_get (lv_args 0 [.ref 0, .int (nJ p)]) 1 = some (.int (nJ p)) := rfl
  generalize lv_args 0 [.ref 0, .int (nJ p)] = lv at L0 L1 ⊢
  refine E_ci 0 rfl (by decide) ?_
  refine E_is rfl (fun lv1 K2 kp => ?_)
  refine E_ci 0 rfl (by decide) ?_
  refine E_is rfl (fun lv2 K3 kp2 => ?_)
  exact wu_loop hh F B hp (N9 h) (c := 0) lv2 (by omega) (kp2 0 _ (by decide) rfl (kp 0 _ (by decide) rfl L0)) (kp2 1 _ (by decide) rfl (kp 1 _ (by decide) rfl L1)) (kp2 2 _ (by decide) rfl K2) K3
theorem lw8_loop (hh : HH h) (F : CW8 h) (B : B9 h) (e : N9 h = P9 h) (j : Nat) : ∀ {p : Nat} (lv : List (Nat × Value)), p + j = P9 h + 1 → 1 ≤ p → (∀ q, 1 ≤ q → q < p → q ≤ cw (W9 h) q (N9 h)) → pm_get lv 0 = some (.ref 0) → pm_get lv 1 = some (.int (nJ p)) → Ends (pm_at tX8_isLawful) (pm_Rt pm_P (d + 1)) (21, lv, [], h, 0, 0) (fun h' r => h' = h ∧ r = some (.int (zb (LW9 h = true)))) := by
  have F0 := F
  obtain ⟨f4, f0, f17⟩ := F
  obtain ⟨-, p8, n8⟩ := g9s hh
  induction j with
  | zero =>
    intro p lv hj p1 V L0 L1
    refine E_il rfl L1 ?_
    refine E_al rfl L0 ?_
    refine E_ogr (q := 15) rfl hh rfl rfl ?_
    refine E_ogf (q := (0, 8)) rfl hh rfl rfl f0 ?_
    refine E_icT rfl (decide_eq_true ((nJ_lt (by omega) (by omega)).mpr (by omega))) ?_
    refine E_ci 1 rfl (by decide) ?_
    exact E_rtz rfl (.inr rfl) ⟨rfl, by rw [zb_T (LW9_iff.mpr ⟨e, fun q a b => V q a (by omega)⟩)]⟩
  | succ j ih =>
    intro p lv hj p1 V L0 L1
    refine E_il rfl L1 ?_
    refine E_al rfl L0 ?_
    refine E_ogr (q := 15) rfl hh rfl rfl ?_
    refine E_ogf (q := (0, 8)) rfl hh rfl rfl f0 ?_
    refine E_icF rfl (decide_eq_false (fun z => absurd ((nJ_lt (by omega) (by omega)).mp z) (by omega))) ?_
    refine E_al rfl L0 ?_
    refine E_il rfl L1 ?_
    have cl := cw_le (W9 h) p (N9 h)
    refine E_call rfl (Sp_le (by omega) (sp_wishesUpTo8 (d := d) (p := p) hh F0 B (by omega))) (chkO (a := 0) hh rfl rfl rfl rfl (by show 0 ≤ 8; decide)) (fun h1 r1 => ?_)
    rintro ⟨e1, f1⟩
    rw [e1, f1]
    refine E_il rfl L1 ?_
    by_cases b : p ≤ cw (W9 h) p (N9 h)
    · refine E_icT rfl (decide_eq_true ((nJ_le (by omega) (by omega)).mpr b)) ?_
      refine E_inc rfl L1 (nJ_inc _) (fun lv2 K1 kp2 => ?_)
      refine E_goto rfl ?_
      refine ih lv2 (by omega) (by omega) (fun q a c => ?_) (kp2 0 _ (by decide) rfl L0) K1
      by_cases z : q = p
      · rw [z]; exact b
      · exact V q a (by omega)
    · refine E_icF rfl (decide_eq_false (fun z => b ((nJ_le (by omega) (by omega)).mp z))) ?_
      refine E_ci 0 rfl (by decide) ?_
      exact E_rtz rfl (.inl rfl) ⟨rfl, by rw [zb_F (fun q => b ((LW9_iff.mp q).2 p p1 (by omega)))]⟩
theorem sp_isLawful8 (hh : HH h) (F : CW8 h) (B : B9 h) : Sp (d + 2) 125 h [.ref 0] (fun h' r => h' = h ∧ r = some (.int (zb (LW9 h = true)))) := by
  have F0 := F
  obtain ⟨f4, f0, f17⟩ := F
  obtain ⟨-, p8, n8⟩ := g9s hh
  refine Sp_of aiX8_isLawful rfl rfl rfl ?_
  have L0 : pm_get (lv_args 0 [.ref 0]) 0 = some (.ref 0) := rfl
  generalize lv_args 0 [.ref 0] = lv at L0 ⊢
  refine E_al rfl L0 ?_
  refine E_ogr (q := 15) rfl hh rfl rfl ?_
  refine E_ogf (q := (0, 8)) rfl hh rfl rfl f4 ?_
  refine E_al rfl L0 ?_
  refine E_ogr (q := 15) rfl hh rfl rfl ?_
  refine E_ogf (q := (0, 8)) rfl hh rfl rfl f0 ?_
  by_cases b : N9 h = P9 h
  · refine E_icT rfl (decide_eq_true ((nJ_eq (by omega) (by omega)).mpr b)) ?_
    refine E_ci 1 rfl (by decide) ?_
    refine E_is rfl (fun lv1 K1 kp => ?_)
    exact lw8_loop hh F0 B b (P9 h) (p := 1) lv1 (by omega) (by omega) (fun q a c => absurd c (by omega)) (kp 0 _ (by decide) rfl L0) K1
  · refine E_icF rfl (decide_eq_false (fun z => b ((nJ_eq (by omega) (by omega)).mp z))) ?_
    refine E_ci 0 rfl (by decide) ?_
    exact E_rtz rfl (.inl rfl) ⟨rfl, by rw [zb_F (fun q => b (LW9_iff.mp q).1)]⟩
/-! the reference -/
theorem sp_wantingX {p : Nat} (T : LY9 h h2) (hp : p < 2147483648) : Sp (d + 2) 369 h2 [.ref 77, .int (nJ p)] (fun h' r => h' = h2 ∧ r = some (.int (nJ (cw (W9 h) p (N9 h))))) := by
  obtain ⟨hh2, u0, u3, u9⟩ := T
  refine Sp_mono ?_ (sp_wanting (d := d) hh2 hp)
  rintro h' r ⟨e, f⟩
  refine ⟨e, ?_⟩
  rw [f, u3, cw_eq (g := W9 h) u9]
theorem lw9X_loop (hh : HH h) (T : LY9 h h2) (e : N9 h = P9 h) (j : Nat) : ∀ {p : Nat} (lv : List (Nat × Value)), p + j = P9 h + 1 → 1 ≤ p → (∀ q, 1 ≤ q → q < p → q ≤ cw (W9 h) q (N9 h)) → pm_get lv 0 = some (.ref 77) → pm_get lv 1 = some (.int (nJ p)) → Ends (pm_at tX9_isLawful) (pm_Rt pm_P (d + 2)) (15, lv, [], h2, 0, 0) (fun h' r => h' = h2 ∧ r = some (.int (zb (LW9 h = true)))) := by
  have T0 := T
  obtain ⟨hh2, u0, u3, u9⟩ := T
  obtain ⟨-, p8, n8⟩ := g9s hh
  induction j with
  | zero =>
    intro p lv hj p1 V L0 L1
    refine E_il rfl L1 ?_
    refine E_al rfl L0 ?_
    refine E_call rfl (Sp_le (by omega) (sp_places (d := d) hh2)) (chk77 hh2 rfl rfl (by show 1 ≤ 8; decide)) (fun h1 r1 => ?_)
    rintro ⟨e1, f1, -⟩
    rw [e1, f1, u0]
    refine E_icT rfl (decide_eq_true ((nJ_lt (by omega) (by omega)).mpr (by omega))) ?_
    refine E_ci 1 rfl (by decide) ?_
    exact E_rtz rfl (.inr rfl) ⟨rfl, by rw [zb_T (LW9_iff.mpr ⟨e, fun q a b => V q a (by omega)⟩)]⟩
  | succ j ih =>
    intro p lv hj p1 V L0 L1
    refine E_il rfl L1 ?_
    refine E_al rfl L0 ?_
    refine E_call rfl (Sp_le (by omega) (sp_places (d := d) hh2)) (chk77 hh2 rfl rfl (by show 1 ≤ 8; decide)) (fun h1 r1 => ?_)
    rintro ⟨e1, f1, -⟩
    rw [e1, f1, u0]
    refine E_icF rfl (decide_eq_false (fun z => absurd ((nJ_lt (by omega) (by omega)).mp z) (by omega))) ?_
    refine E_al rfl L0 ?_
    refine E_il rfl L1 ?_
    have cl := cw_le (W9 h) p (N9 h)
    refine E_call rfl (sp_wantingX (d := d) (p := p) T0 (by omega)) (chk77 hh2 rfl rfl (by show 0 ≤ 8; decide)) (fun h3 r3 => ?_)
    rintro ⟨e3, f3⟩
    rw [e3, f3]
    refine E_il rfl L1 ?_
    by_cases b : p ≤ cw (W9 h) p (N9 h)
    · refine E_icT rfl (decide_eq_true ((nJ_le (by omega) (by omega)).mpr b)) ?_
      refine E_inc rfl L1 (nJ_inc _) (fun lv2 K1 kp2 => ?_)
      refine E_goto rfl ?_
      refine ih lv2 (by omega) (by omega) (fun q a c => ?_) (kp2 0 _ (by decide) rfl L0) K1
      by_cases z : q = p
      · rw [z]; exact b
      · exact V q a (by omega)
    · refine E_icF rfl (decide_eq_false (fun z => b ((nJ_le (by omega) (by omega)).mp z))) ?_
      refine E_ci 0 rfl (by decide) ?_
      exact E_rtz rfl (.inl rfl) ⟨rfl, by rw [zb_F (fun q => b ((LW9_iff.mp q).2 p p1 (by omega)))]⟩
theorem sp_isLawful9 (hh : HH h) (T : LY9 h h2) : Sp (d + 3) 272 h2 [.ref 77] (fun h' r => h' = h2 ∧ r = some (.int (zb (LW9 h = true)))) := by
  have T0 := T
  obtain ⟨hh2, u0, u3, u9⟩ := T
  obtain ⟨-, p8, n8⟩ := g9s hh
  refine Sp_of aiX9_isLawful rfl rfl rfl ?_
  have L0 : pm_get (lv_args 0 [.ref 77]) 0 = some (.ref 77) := rfl
  generalize lv_args 0 [.ref 77] = lv at L0 ⊢
  refine E_al rfl L0 ?_
  refine E_call rfl (Sp_le (by omega) (sp_cars (d := d) hh2)) (chk77 hh2 rfl rfl (by show 0 ≤ 8; decide)) (fun h1 r1 => ?_)
  rintro ⟨e1, f1, -⟩
  rw [e1, f1, u3]
  refine E_al rfl L0 ?_
  refine E_call rfl (Sp_le (by omega) (sp_places (d := d) hh2)) (chk77 hh2 rfl rfl (by show 1 ≤ 8; decide)) (fun h3 r3 => ?_)
  rintro ⟨e3, f3, -⟩
  rw [e3, f3, u0]
  by_cases b : N9 h = P9 h
  · refine E_icT rfl (decide_eq_true ((nJ_eq (by omega) (by omega)).mpr b)) ?_
    refine E_ci 1 rfl (by decide) ?_
    refine E_is rfl (fun lv1 K1 kp => ?_)
    exact lw9X_loop hh T0 b (P9 h) (p := 1) lv1 (by omega) (by omega) (fun q a c => absurd c (by omega)) (kp 0 _ (by decide) rfl L0) K1
  · refine E_icF rfl (decide_eq_false (fun z => b ((nJ_eq (by omega) (by omega)).mp z))) ?_
    refine E_ci 0 rfl (by decide) ?_
    exact E_rtz rfl (.inl rfl) ⟨rfl, by rw [zb_F (fun q => b (LW9_iff.mp q).1)]⟩
end WSH
end
