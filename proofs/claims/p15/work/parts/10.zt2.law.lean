/-! by hand: how many want so, lawful rows (written by gen_t2.py) -/
theorem wn_loop {h : pm_H} {d p : Nat} (hh : HH h) (hp : p < 2147483648) (k : Nat) : ∀ {c n : Nat}, n = cw (gn h 89) p c → ∀ (lv : List (Nat × Value)), c + k = gn h 84 3 → pm_get lv 0 = some (.ref 77) → pm_get lv 1 = some (.int (nJ p)) → pm_get lv 2 = some (.int (nJ n)) → pm_get lv 3 = some (.int (nJ c)) → Ends (pm_at tX9_wanting) (pm_Rt pm_P (d + 1)) (4, lv, [], h, 0, 0) (fun h' r => h' = h ∧ r = some (.int (nJ (cw (gn h 89) p (gn h 84 3))))) := by
  have hC : gn h 84 3 ≤ 8 := gn_hi hh rfl (by decide)
  induction k with
  | zero =>
    intro c n hn lv hk L0 L1 L2 L3
    have hn8 := cw_le (gn h 89) p c
    refine E_il rfl L3 ?_
    refine E_al rfl L0 ?_
    refine E_call rfl (sp_cars hh) (chk77 hh rfl rfl (by show 1 ≤ 8; decide)) (fun h1 r1 => ?_)
    rintro ⟨e1, f1, c1⟩
    rw [e1, f1]
    show Ends _ _ (9, lv, [.int (nJ (gn h 84 3)), .int (nJ c)], h, 0, 0) _
    refine E_icT rfl (decide_eq_true ((nJ_le (by omega) (by omega)).mpr (by omega))) ?_
    refine E_il rfl L2 ?_
    exact E_rti rfl ⟨rfl, by rw [hn, show gn h 84 3 = c by omega]⟩
  | succ k ih =>
    intro c n hn lv hk L0 L1 L2 L3
    have hn8 := cw_le (gn h 89) p c
    refine E_il rfl L3 ?_
    refine E_al rfl L0 ?_
    refine E_call rfl (sp_cars hh) (chk77 hh rfl rfl (by show 1 ≤ 8; decide)) (fun h1 r1 => ?_)
    rintro ⟨e1, f1, c1⟩
    rw [e1, f1]
    show Ends _ _ (9, lv, [.int (nJ (gn h 84 3)), .int (nJ c)], h, 0, 0) _
    refine E_icF rfl (decide_eq_false (fun q => absurd ((nJ_le (by omega) (by omega)).mp q) (by omega))) ?_
    refine E_il rfl L2 ?_
    refine E_al rfl L0 ?_
    refine E_gr rfl hh (q := 89) rfl ?_
    refine E_il rfl L3 ?_
    have b2 : gn h 89 c ≤ 8 := gn_hi hh (bd_u rfl (by omega)) (by decide)
    refine E_ial rfl hh rfl (by omega) (by decide) (gi_gn hh (bd_u rfl (by omega)) (by decide)) ?_
    refine E_il rfl L1 ?_
    by_cases hb3 : p < (gn h 89 c)
    · refine E_icT rfl (decide_eq_true ((nJ_lt (by omega) (by omega)).mpr hb3)) ?_
      refine E_ci 0 rfl (by decide) ?_
      refine E_bin rfl (nJ_add _ _) ?_
      refine E_is rfl (fun lv4 L4_2 kp4 => ?_)
      have L4_0 := kp4 0 _ (by decide) rfl L0
      have L4_1 := kp4 1 _ (by decide) rfl L1
      have L4_3 := kp4 3 _ (by decide) rfl L3
      refine E_inc rfl L4_3 (nJ_inc _) (fun lv5 L5_3 kp5 => ?_)
      have L5_0 := kp5 0 _ (by decide) rfl L4_0
      have L5_1 := kp5 1 _ (by decide) rfl L4_1
      have L5_2 := kp5 2 _ (by decide) rfl L4_2
      refine E_goto rfl ?_
      refine ih (c := c + 1) (n := (n + 0)) ?_ lv5 (by omega) L5_0 L5_1 L5_2 L5_3
      rw [hn, cw_F (by omega)]
    · refine E_icF rfl (decide_eq_false (fun q => hb3 ((nJ_lt (by omega) (by omega)).mp q))) ?_
      refine E_ci 1 rfl (by decide) ?_
      refine E_goto rfl ?_
      refine E_bin rfl (nJ_add _ _) ?_
      refine E_is rfl (fun lv6 L6_2 kp6 => ?_)
      have L6_0 := kp6 0 _ (by decide) rfl L0
      have L6_1 := kp6 1 _ (by decide) rfl L1
      have L6_3 := kp6 3 _ (by decide) rfl L3
      refine E_inc rfl L6_3 (nJ_inc _) (fun lv7 L7_3 kp7 => ?_)
      have L7_0 := kp7 0 _ (by decide) rfl L6_0
      have L7_1 := kp7 1 _ (by decide) rfl L6_1
      have L7_2 := kp7 2 _ (by decide) rfl L6_2
      refine E_goto rfl ?_
      refine ih (c := c + 1) (n := (n + 1)) ?_ lv7 (by omega) L7_0 L7_1 L7_2 L7_3
      rw [hn, cw_T (by omega)]
theorem sp_wanting {h : pm_H} {d p : Nat} (hh : HH h) (hp : p < 2147483648) : Sp (d + 2) 369 h [.ref 77, .int (nJ p)] (fun h' r => h' = h ∧ r = some (.int (nJ (cw (gn h 89) p (gn h 84 3))))) := by
  refine Sp_of aiX9_wanting rfl rfl rfl ?_
  refine E_ci 0 rfl (by decide) ?_
  refine E_is rfl (fun lv1 L1_2 kp1 => ?_)
  have L1_0 := kp1 0 _ (by decide) rfl (show pm_get (lv_args 0 [.ref 77, .int (nJ p)]) 0 = _ from rfl)
  have L1_1 := kp1 1 _ (by decide) rfl (show pm_get (lv_args 0 [.ref 77, .int (nJ p)]) 1 = _ from rfl)
  refine E_ci 0 rfl (by decide) ?_
  refine E_is rfl (fun lv2 L2_3 kp2 => ?_)
  have L2_0 := kp2 0 _ (by decide) rfl L1_0
  have L2_1 := kp2 1 _ (by decide) rfl L1_1
  have L2_2 := kp2 2 _ (by decide) rfl L1_2
  exact wn_loop hh hp (gn h 84 3) (c := 0) (n := 0) rfl lv2 (by omega) L2_0 L2_1 L2_2 L2_3
/-- lawful -/
noncomputable def LWf (h : pm_H) : Prop := gn h 84 3 = gn h 84 0 ∧ ∀ p, 1 ≤ p → p ≤ gn h 84 0 → p ≤ cw (gn h 89) p (gn h 84 0)
theorem lw_loop {h : pm_H} {d : Nat} (hh : HH h) (hCP : gn h 84 3 = gn h 84 0) (k : Nat) : ∀ {p : Nat}, p + k = gn h 84 0 + 1 → (∀ q, 1 ≤ q → q < p → q ≤ cw (gn h 89) q (gn h 84 3)) → ∀ (lv : List (Nat × Value)), pm_get lv 0 = some (.ref 77) → pm_get lv 1 = some (.int (nJ p)) → Ends (pm_at tX9_isLawful) (pm_Rt pm_P (d + 2)) (15, lv, [], h, 0, 0) (fun h' r => h' = h ∧ (r = some (.int (nJ 0)) ∨ r = some (.int (nJ 1)) ∧ LWf h)) := by
  have hP : gn h 84 0 ≤ 8 := gn_hi hh rfl (by decide)
  induction k with
  | zero =>
    intro p hk hp lv L0 L1
    refine E_il rfl L1 ?_
    refine E_al rfl L0 ?_
    refine E_call rfl (sp_places hh) (chk77 hh rfl rfl (by show 1 ≤ 8; decide)) (fun h1 r1 => ?_)
    rintro ⟨e1, f1, c1⟩
    rw [e1, f1]
    show Ends _ _ (20, lv, [.int (nJ (gn h 84 0)), .int (nJ p)], h, 0, 0) _
    refine E_icT rfl (decide_eq_true ((nJ_lt (by omega) (by omega)).mpr (by omega))) ?_
    refine E_ci 1 rfl (by decide) ?_
    exact E_rtz rfl (.inr rfl) ⟨rfl, .inr ⟨rfl, hCP, fun q h1 h2 => by have := hp q h1 (by omega); rw [hCP] at this; exact this⟩⟩
  | succ k ih =>
    intro p hk hp lv L0 L1
    refine E_il rfl L1 ?_
    refine E_al rfl L0 ?_
    refine E_call rfl (sp_places hh) (chk77 hh rfl rfl (by show 1 ≤ 8; decide)) (fun h1 r1 => ?_)
    rintro ⟨e1, f1, c1⟩
    rw [e1, f1]
    show Ends _ _ (20, lv, [.int (nJ (gn h 84 0)), .int (nJ p)], h, 0, 0) _
    refine E_icF rfl (decide_eq_false (fun q => absurd ((nJ_lt (by omega) (by omega)).mp q) (by omega))) ?_
    refine E_al rfl L0 ?_
    refine E_il rfl L1 ?_
    refine E_call rfl (sp_wanting hh (by omega)) (chk77 hh rfl rfl (by show 0 ≤ 8; decide)) (fun h2 r2 => ?_)
    rintro ⟨e2, f2⟩
    rw [e2, f2]
    have hw8 := cw_le (gn h 89) p (gn h 84 3)
    show Ends _ _ (28, lv, [.int (nJ (cw (gn h 89) p (gn h 84 3)))], h, 0, 0) _
    refine E_il rfl L1 ?_
    by_cases hb3 : p ≤ (cw (gn h 89) p (gn h 84 3))
    · refine E_icT rfl (decide_eq_true ((nJ_le (by omega) (by omega)).mpr hb3)) ?_
      refine E_inc rfl L1 (nJ_inc _) (fun lv4 L4_1 kp4 => ?_)
      have L4_0 := kp4 0 _ (by decide) rfl L0
      refine E_goto rfl ?_
      refine ih (p := p + 1) (by omega) (fun q h1 h2 => ?_) lv4 L4_0 L4_1
      by_cases hq : q = p
      · subst hq; omega
      · exact hp q h1 (by omega)
    · refine E_icF rfl (decide_eq_false (fun q => hb3 ((nJ_le (by omega) (by omega)).mp q))) ?_
      refine E_ci 0 rfl (by decide) ?_
      exact E_rtz rfl (.inl rfl) ⟨rfl, .inl rfl⟩
theorem sp_isLawful {h : pm_H} {d : Nat} (hh : HH h) : Sp (d + 3) 272 h [.ref 77] (fun h' r => h' = h ∧ (r = some (.int (nJ 0)) ∨ r = some (.int (nJ 1)) ∧ LWf h)) := by
  refine Sp_of aiX9_isLawful rfl rfl rfl ?_
  refine E_al rfl (show pm_get (lv_args 0 [.ref 77]) 0 = _ from rfl) ?_
  refine E_call rfl (sp_cars hh) (chk77 hh rfl rfl (by show 0 ≤ 8; decide)) (fun h1 r1 => ?_)
  rintro ⟨e1, f1, c1⟩
  rw [e1, f1]
  show Ends _ _ (4, (lv_args 0 [.ref 77]), [.int (nJ (gn h 84 3))], h, 0, 0) _
  refine E_al rfl (show pm_get (lv_args 0 [.ref 77]) 0 = _ from rfl) ?_
  refine E_call rfl (sp_places hh) (chk77 hh rfl rfl (by show 1 ≤ 8; decide)) (fun h2 r2 => ?_)
  rintro ⟨e2, f2, c2⟩
  rw [e2, f2]
  show Ends _ _ (8, (lv_args 0 [.ref 77]), [.int (nJ (gn h 84 0)), .int (nJ (gn h 84 3))], h, 0, 0) _
  by_cases hb3 : (gn h 84 3) = (gn h 84 0)
  · refine E_icT rfl (decide_eq_true ((nJ_eq (by omega) (by omega)).mpr hb3)) ?_
    refine E_ci 1 rfl (by decide) ?_
    refine E_is rfl (fun lv4 L4_1 kp4 => ?_)
    have L4_0 := kp4 0 _ (by decide) rfl (show pm_get (lv_args 0 [.ref 77]) 0 = _ from rfl)
    exact lw_loop hh (by omega) (gn h 84 0) (p := 1) (by omega) (fun q h1 h2 => by omega) lv4 L4_0 L4_1
  · refine E_icF rfl (decide_eq_false (fun q => hb3 ((nJ_eq (by omega) (by omega)).mp q))) ?_
    refine E_ci 0 rfl (by decide) ?_
    exact E_rtz rfl (.inl rfl) ⟨rfl, .inl rfl⟩
