section
theorem RD_end {h0 h : pm_H} {N a b : Nat} {l : Nat → Nat} (hN2 : 2 ≤ N) (hN9 : N ≤ 9) (R : RD h0 h N (N - 2) 0 l) (ha : a < N) (hb : b < N) (hab : a ≠ b) (hla : l a = 1) (hlb : l b = 1) : HH (pt (pt h 96 (2 * (N - 2)) (nJ a)) 96 (2 * (N - 2) + 1) (nJ b)) ∧ fr_g DM h0 (pt (pt h 96 (2 * (N - 2)) (nJ a)) 96 (2 * (N - 2) + 1) (nJ b)) ∧ (∀ k, k < 2 * (N - 1) → gn (pt (pt h 96 (2 * (N - 2)) (nJ a)) 96 (2 * (N - 2) + 1) (nJ b)) 96 k < N) ∧ CNx (pt (pt h 96 (2 * (N - 2)) (nJ a)) 96 (2 * (N - 2) + 1) (nJ b)) N := by
  obtain ⟨r1, r2, r3, r4, r5, r6, r7, r8, r9⟩ := R
  have hh1 : HH (pt h 96 (2 * (N - 2)) (nJ a)) := HH_ptn r1 (bd_u rfl (by omega)) (by omega) (by omega) (by omega)
  have hh2 : HH (pt (pt h 96 (2 * (N - 2)) (nJ a)) 96 (2 * (N - 2) + 1) (nJ b)) := HH_ptn hh1 (bd_u rfl (by omega)) (by omega) (by omega) (by omega)
  have eA : gn (pt (pt h 96 (2 * (N - 2)) (nJ a)) 96 (2 * (N - 2) + 1) (nJ b)) 96 (2 * (N - 2)) = a := by rw [gn_ne (by omega), gn_ptn r1 (bd_u rfl (by omega)) (by omega) (by omega) (by omega)]
  have eB : gn (pt (pt h 96 (2 * (N - 2)) (nJ a)) 96 (2 * (N - 2) + 1) (nJ b)) 96 (2 * (N - 2) + 1) = b := gn_ptn hh1 (bd_u rfl (by omega)) (by omega) (by omega) (by omega)
  have eC : ∀ q, q < 2 * (N - 2) → gn (pt (pt h 96 (2 * (N - 2)) (nJ a)) 96 (2 * (N - 2) + 1) (nJ b)) 96 q = gn h 96 q := fun q hq => by rw [gn_ne (by omega), gn_ne (by omega)]
  refine ⟨hh2, fr_ptr (l := 0) (u := 17) rfl (by omega) (by omega) (fr_ptr (l := 0) (u := 17) rfl (by omega) (by omega) r2), fun q hq => ?_, fun m hm h0 hv => ?_⟩
  · by_cases h1 : q = 2 * (N - 2)
    · rw [h1, eA]; exact ha
    · by_cases h2 : q = 2 * (N - 2) + 1
      · rw [h2, eB]; exact hb
      · rw [eC q (by omega)]; exact r8 q (by omega)
  · obtain ⟨v, v1, v2⟩ := hv
    have key : ∃ q, q < 2 * (N - 1) ∧ isB m (gn (pt (pt h 96 (2 * (N - 2)) (nJ a)) 96 (2 * (N - 2) + 1) (nJ b)) 96 q) ≠ isB m (gn (pt (pt h 96 (2 * (N - 2)) (nJ a)) 96 (2 * (N - 2) + 1) (nJ b)) 96 (xr q)) := by
      cases r9 m hm ⟨0, v, by omega, v1, h0, v2⟩ with
      | inl e =>
        obtain ⟨q, q1, q2⟩ := e
        have q3 := xr_lt q1
        exact ⟨q, by omega, by rw [eC q q1, eC _ q3]; exact q2⟩
      | inr e =>
        obtain ⟨u, w, u1, w1, u2, w2, u3, w3⟩ := e
        have only : ∀ u, u < N → l u ≠ 0 → u = a ∨ u = b := by
          intro u u1 u2
          by_cases h1 : u = a
          · exact .inl h1
          · by_cases h2 : u = b
            · exact .inr h2
            · exfalso
              have s1 := lc_fu0 (l := l) (v := a) (by omega) (n := N) ha
              have s2 := lc_fu0 (l := fu l a 0) (v := b) (by rw [fu_ne (Ne.symm hab)]; omega) (n := N) hb
              have s3 := lc_zero (l := fu (fu l a 0) b 0) (n := N) (by omega) u u1
              rw [fu_ne h2, fu_ne h1] at s3
              exact u2 s3
        refine ⟨2 * (N - 2), by omega, ?_⟩
        rw [xr_even, eA, eB]
        cases only u u1 u2 with
        | inl e1 => cases only w w1 w2 with
          | inl e2 => rw [e1] at u3; rw [e2, u3] at w3; cases w3
          | inr e2 => rw [← e1, ← e2, u3, w3]; decide
        | inr e1 => cases only w w1 w2 with
          | inl e2 => rw [← e1, ← e2, u3, w3]; decide
          | inr e2 => rw [e1] at u3; rw [e2, u3] at w3; cases w3
    obtain ⟨q, q1, q2⟩ := key
    cases ne_bool q2 with
    | inl e => exact ⟨q, q1, e.1, e.2⟩
    | inr e => exact ⟨xr q, xr_lt q1, e.2, by rw [xr_xr]; exact e.1⟩
theorem rd_s1 {d N : Nat} {h : pm_H} {l : Nat → Nat} {Q : pm_H → Option Value → Prop} {e i s y : Nat} (hh : HH h) (hN9 : N ≤ 9) (hl : ∀ v, v < N → gi h 94 v = nJ (l v)) (hl8 : ∀ v, v < N → l v < 100) (hy : y < N) (hly : l y = 1) (K : ∀ {x : Nat} (lv : List (Nat × Value)), x < N → s ≤ x → l x = 1 → (∀ v, s ≤ v → v < x → ¬ l v = 1) → pm_get lv 0 = some (.ref 77) → pm_get lv 1 = some (.int (nJ N)) → pm_get lv 2 = some (.int (nJ e)) → pm_get lv 3 = some (.int (nJ i)) → pm_get lv 4 = some (.int (nJ x)) → Ends (pm_at tX9_reads0) (pm_Rt pm_P (d + 2)) (81, lv, [], h, 0, 0) Q) (j : Nat) : ∀ {x : Nat} (lv : List (Nat × Value)), x + j = y → s ≤ x → (∀ v, s ≤ v → v < x → ¬ l v = 1) → pm_get lv 0 = some (.ref 77) → pm_get lv 1 = some (.int (nJ N)) → pm_get lv 2 = some (.int (nJ e)) → pm_get lv 3 = some (.int (nJ i)) → pm_get lv 4 = some (.int (nJ x)) → Ends (pm_at tX9_reads0) (pm_Rt pm_P (d + 2)) (64, lv, [], h, 0, 0) Q := by
  induction j with
  | zero =>
    intro x lv hj hbs hbe L0 L1 L2 L3 L4
    have hxy : x = y := by omega
    subst hxy
    have hlx := hl8 x (by omega)
    refine E_al rfl L0 ?_
    refine E_gr rfl hh (q := 94) rfl ?_
    refine E_il rfl L4 ?_
    refine E_ial rfl hh rfl (by omega) (by decide) (show gi h 94 x = nJ ((l x)) from hl x (by omega)) ?_
    refine E_ci 1 rfl (by decide) ?_
    refine E_icT rfl (decide_eq_true ((nJ_eq (by omega) (by omega)).mpr hly)) ?_
    exact K lv (by omega) hbs hly hbe L0 L1 L2 L3 L4
  | succ j ih =>
    intro x lv hj hbs hbe L0 L1 L2 L3 L4
    have hlx := hl8 x (by omega)
    refine E_al rfl L0 ?_
    refine E_gr rfl hh (q := 94) rfl ?_
    refine E_il rfl L4 ?_
    refine E_ial rfl hh rfl (by omega) (by decide) (show gi h 94 x = nJ ((l x)) from hl x (by omega)) ?_
    refine E_ci 1 rfl (by decide) ?_
    by_cases hb1 : l x = 1
    · refine E_icT rfl (decide_eq_true ((nJ_eq (by omega) (by omega)).mpr hb1)) ?_
      exact K lv (by omega) hbs hb1 hbe L0 L1 L2 L3 L4
    · refine E_icF rfl (decide_eq_false (fun q => hb1 ((nJ_eq (by omega) (by omega)).mp q))) ?_
      refine E_inc rfl L4 (nJ_inc _) (fun lv2 L2_4 kp2 => ?_)
      have L2_0 := kp2 0 _ (by decide) rfl L0
      have L2_1 := kp2 1 _ (by decide) rfl L1
      have L2_2 := kp2 2 _ (by decide) rfl L2
      have L2_3 := kp2 3 _ (by decide) rfl L3
      refine E_goto rfl ?_
      exact ih lv2 (by omega) (by omega) (fun v h1 h2 => by by_cases e : v = x; (· subst e; exact hb1); (· exact hbe v h1 (by omega))) L2_0 L2_1 L2_2 L2_3 L2_4
theorem rd_s2 {d N : Nat} {h : pm_H} {l : Nat → Nat} {Q : pm_H → Option Value → Prop} {e s y : Nat} (hh : HH h) (hN9 : N ≤ 9) (hl : ∀ v, v < N → gi h 94 v = nJ (l v)) (hl8 : ∀ v, v < N → l v < 100) (hy : y < N) (hly : l y = 1) (K : ∀ {x : Nat} (lv : List (Nat × Value)), x < N → s ≤ x → l x = 1 → (∀ v, s ≤ v → v < x → ¬ l v = 1) → pm_get lv 0 = some (.ref 77) → pm_get lv 1 = some (.int (nJ N)) → pm_get lv 2 = some (.int (nJ e)) → pm_get lv 3 = some (.int (nJ x)) → Ends (pm_at tX9_reads0) (pm_Rt pm_P (d + 2)) (153, lv, [], h, 0, 0) Q) (j : Nat) : ∀ {x : Nat} (lv : List (Nat × Value)), x + j = y → s ≤ x → (∀ v, s ≤ v → v < x → ¬ l v = 1) → pm_get lv 0 = some (.ref 77) → pm_get lv 1 = some (.int (nJ N)) → pm_get lv 2 = some (.int (nJ e)) → pm_get lv 3 = some (.int (nJ x)) → Ends (pm_at tX9_reads0) (pm_Rt pm_P (d + 2)) (137, lv, [], h, 0, 0) Q := by
  induction j with
  | zero =>
    intro x lv hj hbs hbe L0 L1 L2 L3
    have hxy : x = y := by omega
    subst hxy
    have hlx := hl8 x (by omega)
    refine E_al rfl L0 ?_
    refine E_gr rfl hh (q := 94) rfl ?_
    refine E_il rfl L3 ?_
    refine E_ial rfl hh rfl (by omega) (by decide) (show gi h 94 x = nJ ((l x)) from hl x (by omega)) ?_
    refine E_ci 1 rfl (by decide) ?_
    refine E_icT rfl (decide_eq_true ((nJ_eq (by omega) (by omega)).mpr hly)) ?_
    exact K lv (by omega) hbs hly hbe L0 L1 L2 L3
  | succ j ih =>
    intro x lv hj hbs hbe L0 L1 L2 L3
    have hlx := hl8 x (by omega)
    refine E_al rfl L0 ?_
    refine E_gr rfl hh (q := 94) rfl ?_
    refine E_il rfl L3 ?_
    refine E_ial rfl hh rfl (by omega) (by decide) (show gi h 94 x = nJ ((l x)) from hl x (by omega)) ?_
    refine E_ci 1 rfl (by decide) ?_
    by_cases hb1 : l x = 1
    · refine E_icT rfl (decide_eq_true ((nJ_eq (by omega) (by omega)).mpr hb1)) ?_
      exact K lv (by omega) hbs hb1 hbe L0 L1 L2 L3
    · refine E_icF rfl (decide_eq_false (fun q => hb1 ((nJ_eq (by omega) (by omega)).mp q))) ?_
      refine E_inc rfl L3 (nJ_inc _) (fun lv2 L2_3 kp2 => ?_)
      have L2_0 := kp2 0 _ (by decide) rfl L0
      have L2_1 := kp2 1 _ (by decide) rfl L1
      have L2_2 := kp2 2 _ (by decide) rfl L2
      refine E_goto rfl ?_
      exact ih lv2 (by omega) (by omega) (fun v h1 h2 => by by_cases e : v = x; (· subst e; exact hb1); (· exact hbe v h1 (by omega))) L2_0 L2_1 L2_2 L2_3
theorem rd_s3 {d N : Nat} {h : pm_H} {l : Nat → Nat} {Q : pm_H → Option Value → Prop} {e a s y : Nat} (hh : HH h) (hN9 : N ≤ 9) (hl : ∀ v, v < N → gi h 94 v = nJ (l v)) (hl8 : ∀ v, v < N → l v < 100) (hy : y < N) (hly : l y = 1) (K : ∀ {x : Nat} (lv : List (Nat × Value)), x < N → s ≤ x → l x = 1 → (∀ v, s ≤ v → v < x → ¬ l v = 1) → pm_get lv 0 = some (.ref 77) → pm_get lv 1 = some (.int (nJ N)) → pm_get lv 2 = some (.int (nJ e)) → pm_get lv 3 = some (.int (nJ a)) → pm_get lv 4 = some (.int (nJ x)) → Ends (pm_at tX9_reads0) (pm_Rt pm_P (d + 2)) (175, lv, [], h, 0, 0) Q) (j : Nat) : ∀ {x : Nat} (lv : List (Nat × Value)), x + j = y → s ≤ x → (∀ v, s ≤ v → v < x → ¬ l v = 1) → pm_get lv 0 = some (.ref 77) → pm_get lv 1 = some (.int (nJ N)) → pm_get lv 2 = some (.int (nJ e)) → pm_get lv 3 = some (.int (nJ a)) → pm_get lv 4 = some (.int (nJ x)) → Ends (pm_at tX9_reads0) (pm_Rt pm_P (d + 2)) (158, lv, [], h, 0, 0) Q := by
  induction j with
  | zero =>
    intro x lv hj hbs hbe L0 L1 L2 L3 L4
    have hxy : x = y := by omega
    subst hxy
    have hlx := hl8 x (by omega)
    refine E_al rfl L0 ?_
    refine E_gr rfl hh (q := 94) rfl ?_
    refine E_il rfl L4 ?_
    refine E_ial rfl hh rfl (by omega) (by decide) (show gi h 94 x = nJ ((l x)) from hl x (by omega)) ?_
    refine E_ci 1 rfl (by decide) ?_
    refine E_icT rfl (decide_eq_true ((nJ_eq (by omega) (by omega)).mpr hly)) ?_
    exact K lv (by omega) hbs hly hbe L0 L1 L2 L3 L4
  | succ j ih =>
    intro x lv hj hbs hbe L0 L1 L2 L3 L4
    have hlx := hl8 x (by omega)
    refine E_al rfl L0 ?_
    refine E_gr rfl hh (q := 94) rfl ?_
    refine E_il rfl L4 ?_
    refine E_ial rfl hh rfl (by omega) (by decide) (show gi h 94 x = nJ ((l x)) from hl x (by omega)) ?_
    refine E_ci 1 rfl (by decide) ?_
    by_cases hb1 : l x = 1
    · refine E_icT rfl (decide_eq_true ((nJ_eq (by omega) (by omega)).mpr hb1)) ?_
      exact K lv (by omega) hbs hb1 hbe L0 L1 L2 L3 L4
    · refine E_icF rfl (decide_eq_false (fun q => hb1 ((nJ_eq (by omega) (by omega)).mp q))) ?_
      refine E_inc rfl L4 (nJ_inc _) (fun lv2 L2_4 kp2 => ?_)
      have L2_0 := kp2 0 _ (by decide) rfl L0
      have L2_1 := kp2 1 _ (by decide) rfl L1
      have L2_2 := kp2 2 _ (by decide) rfl L2
      have L2_3 := kp2 3 _ (by decide) rfl L3
      refine E_goto rfl ?_
      exact ih lv2 (by omega) (by omega) (fun v h1 h2 => by by_cases e : v = x; (· subst e; exact hb1); (· exact hbe v h1 (by omega))) L2_0 L2_1 L2_2 L2_3 L2_4
end
