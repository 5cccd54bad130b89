/-! the reference's blocks: whether two may be joined (wants t45, 10.ztg) -/
section RBK
variable {h : pm_H} {d : Nat}
theorem g101 (hh : HH h) {k : Nat} (hk : k < 10) : gi h 101 k = nJ (gn h 101 k) ∧ gn h 101 k ≤ 9 := ⟨gi_gn hh (bd_u rfl hk) (by decide), gn_hi hh (bd_u rfl hk) (by decide)⟩
theorem wj_le {b : Nat → Nat} {x y k : Nat} (h : b k ≤ 9) : wj b x y k ≤ 9 := by
  unfold wj
  split <;> omega
theorem sp_withJoin {k x y : Nat} (hh : HH h) (hk : k < 10) (hx : x < 10) (hy : y < 10) : Sp (d + 1) 375 h [.ref 77, .int (nJ k), .int (nJ x), .int (nJ y)] (fun h' r => h' = h ∧ r = some (.int (nJ (wj (gn h 101) x y k)))) := by
  obtain ⟨k1, k2⟩ := g101 hh hk
  obtain ⟨x1, x2⟩ := g101 hh hx
  obtain ⟨y1, y2⟩ := g101 hh hy
  refine Sp_of aiX9_withJoin rfl rfl rfl ?_
  have L0 : pm_get (lv_args 0 [.ref 77, .int (nJ k), .int (nJ x), .int (nJ y)]) 0 = some (.ref 77) := rfl
  have L1 : pm_get (lv_args 0 [.ref 77, .int (nJ k), .int (nJ x), .int (nJ y)]) 1 = some (.int (nJ k)) := rfl
  have L2 : pm_get (lv_args 0 [.ref 77, .int (nJ k), .int (nJ x), .int (nJ y)]) 2 = some (.int (nJ x)) := rfl
  have L3 : pm_get (lv_args 0 [.ref 77, .int (nJ k), .int (nJ x), .int (nJ y)]) 3 = some (.int (nJ y)) := rfl
  generalize lv_args 0 [.ref 77, .int (nJ k), .int (nJ x), .int (nJ y)] = lv at L0 L1 L2 L3 ⊢
  refine E_al rfl L0 ?_
  refine E_gr rfl hh (q := 101) rfl ?_
  refine E_il rfl L1 ?_
  refine E_ial rfl hh rfl hk (by decide) k1 ?_
  refine E_al rfl L0 ?_
  refine E_gr rfl hh (q := 101) rfl ?_
  refine E_il rfl L2 ?_
  refine E_ial rfl hh rfl hx (by decide) x1 ?_
  have yes : (gn h 101 k = gn h 101 x ∨ gn h 101 k = gn h 101 y) → Ends (pm_at tX9_withJoin) (pm_Rt pm_P d) (30, lv, [], h, 0, 0) (fun h' r => h' = h ∧ r = some (.int (nJ (wj (gn h 101) x y k)))) := by
    intro q
    refine E_ci 0 rfl (by decide) ?_
    refine E_goto rfl ?_
    exact E_rti rfl ⟨rfl, by rw [show wj (gn h 101) x y k = 0 from if_pos q]⟩
  by_cases e1 : gn h 101 k = gn h 101 x
  · refine E_icT rfl (decide_eq_true (by rw [e1])) ?_
    exact yes (.inl e1)
  refine E_icF rfl (decide_eq_false (fun z => e1 ((nJ_eq (by omega) (by omega)).mp z))) ?_
  refine E_al rfl L0 ?_
  refine E_gr rfl hh (q := 101) rfl ?_
  refine E_il rfl L1 ?_
  refine E_ial rfl hh rfl hk (by decide) k1 ?_
  refine E_al rfl L0 ?_
  refine E_gr rfl hh (q := 101) rfl ?_
  refine E_il rfl L3 ?_
  refine E_ial rfl hh rfl hy (by decide) y1 ?_
  by_cases e2 : gn h 101 k = gn h 101 y
  · refine E_icF rfl (decide_eq_false (fun z => z (by rw [e2]))) ?_
    exact yes (.inr e2)
  refine E_icT rfl (decide_eq_true (fun z => e2 ((nJ_eq (by omega) (by omega)).mp z))) ?_
  refine E_al rfl L0 ?_
  refine E_gr rfl hh (q := 101) rfl ?_
  refine E_il rfl L1 ?_
  refine E_ial rfl hh rfl hk (by decide) k1 ?_
  exact E_rti rfl ⟨rfl, by rw [show wj (gn h 101) x y k = gn h 101 k from if_neg (fun q => q.elim e1 e2)]⟩
noncomputable def MJQ (n x y : Nat) (h h' : pm_H) (r : Option Value) : Prop := h' = h ∧ ((MAY n (gn h 101) x y ∧ r = some (.int (nJ 1))) ∨ (¬ MAY n (gn h 101) x y ∧ r = some (.int (nJ 0))))
noncomputable def VV (w : Nat → Nat) (p q r s : Nat) : Prop := w p ≠ w q ∧ w p = w r ∧ w q = w s
theorem mj_s {n x y p q r : Nat} (hh : HH h) (hx : x < 10) (hy : y < 10) (n9 : n ≤ 9) (p1 : 1 ≤ p) (pq : p < q) (qr : q < r) (rn : r ≤ n) (K : ∀ lv : List (Nat × Value), pm_get lv 0 = some (.ref 77) → pm_get lv 1 = some (.int (nJ x)) → pm_get lv 2 = some (.int (nJ y)) → pm_get lv 3 = some (.int (nJ n)) → pm_get lv 4 = some (.int (nJ p)) → pm_get lv 5 = some (.int (nJ q)) → pm_get lv 6 = some (.int (nJ r)) → (∀ s, r < s → s ≤ n → ¬ VV (wj (gn h 101) x y) p q r s) → Ends (pm_at tX9_mayJoin) (pm_Rt pm_P (d + 1)) (123, lv, [], h, 0, 0) (MJQ n x y h)) (j : Nat) : ∀ {s : Nat} (lv : List (Nat × Value)), s + j = n + 1 → r < s → (∀ s', r < s' → s' < s → ¬ VV (wj (gn h 101) x y) p q r s') → pm_get lv 0 = some (.ref 77) → pm_get lv 1 = some (.int (nJ x)) → pm_get lv 2 = some (.int (nJ y)) → pm_get lv 3 = some (.int (nJ n)) → pm_get lv 4 = some (.int (nJ p)) → pm_get lv 5 = some (.int (nJ q)) → pm_get lv 6 = some (.int (nJ r)) → pm_get lv 7 = some (.int (nJ s)) → Ends (pm_at tX9_mayJoin) (pm_Rt pm_P (d + 1)) (56, lv, [], h, 0, 0) (MJQ n x y h) := by
  have wp := wj_le (x := x) (y := y) (g101 hh (k := p) (by omega)).2
  have wq := wj_le (x := x) (y := y) (g101 hh (k := q) (by omega)).2
  have wr := wj_le (x := x) (y := y) (g101 hh (k := r) (by omega)).2
  induction j with
  | zero =>
    intro s lv hj rs hA L0 L1 L2 L3 L4 L5 L6 L7
    refine E_il rfl L7 ?_
    refine E_il rfl L3 ?_
    refine E_icT rfl (decide_eq_true ((nJ_lt (by omega) (by omega)).mpr (by omega))) ?_
    exact K lv L0 L1 L2 L3 L4 L5 L6 (fun s' a b => hA s' a (by omega))
  | succ j ih =>
    intro s lv hj rs hA L0 L1 L2 L3 L4 L5 L6 L7
    have ws := wj_le (x := x) (y := y) (g101 hh (k := s) (by omega)).2
    refine E_il rfl L7 ?_
    refine E_il rfl L3 ?_
    refine E_icF rfl (decide_eq_false (fun z => absurd ((nJ_lt (by omega) (by omega)).mp z) (by omega))) ?_
    refine E_al rfl L0 ?_
    refine E_il rfl L4 ?_
    refine E_il rfl L1 ?_
    refine E_il rfl L2 ?_
    refine E_call rfl (sp_withJoin (d := d) hh (by omega) hx hy) (chk77 hh rfl rfl (by show 0 ≤ 8; decide)) (fun h1 r1 => ?_)
    rintro ⟨e1, f1⟩
    rw [e1, f1]
    refine E_is rfl (fun lv1 K8 kp1 => ?_)
    refine E_al rfl (kp1 0 _ (by decide) rfl L0) ?_
    refine E_il rfl (kp1 5 _ (by decide) rfl L5) ?_
    refine E_il rfl (kp1 1 _ (by decide) rfl L1) ?_
    refine E_il rfl (kp1 2 _ (by decide) rfl L2) ?_
    refine E_call rfl (sp_withJoin (d := d) hh (by omega) hx hy) (chk77 hh rfl rfl (by show 0 ≤ 8; decide)) (fun h2 r2 => ?_)
    rintro ⟨e2, f2⟩
    rw [e2, f2]
    refine E_is rfl (fun lv2 K9 kp2 => ?_)
    have M0 := kp2 0 _ (by decide) rfl (kp1 0 _ (by decide) rfl L0)
    have M1 := kp2 1 _ (by decide) rfl (kp1 1 _ (by decide) rfl L1)
    have M2 := kp2 2 _ (by decide) rfl (kp1 2 _ (by decide) rfl L2)
    have M3 := kp2 3 _ (by decide) rfl (kp1 3 _ (by decide) rfl L3)
    have M4 := kp2 4 _ (by decide) rfl (kp1 4 _ (by decide) rfl L4)
    have M5 := kp2 5 _ (by decide) rfl (kp1 5 _ (by decide) rfl L5)
    have M6 := kp2 6 _ (by decide) rfl (kp1 6 _ (by decide) rfl L6)
    have M7 := kp2 7 _ (by decide) rfl (kp1 7 _ (by decide) rfl L7)
    have M8 := kp2 8 _ (by decide) rfl K8
    have next : ¬ VV (wj (gn h 101) x y) p q r s → Ends (pm_at tX9_mayJoin) (pm_Rt pm_P (d + 1)) (117, lv2, [], h, 0, 0) (MJQ n x y h) := by
      intro nv
      refine E_inc rfl M7 (nJ_inc _) (fun lv3 K7 kp3 => ?_)
      refine E_goto rfl ?_
      refine ih lv3 (s := s + 1) (by omega) (by omega) (fun s' a b => ?_) (kp3 0 _ (by decide) rfl M0) (kp3 1 _ (by decide) rfl M1) (kp3 2 _ (by decide) rfl M2) (kp3 3 _ (by decide) rfl M3) (kp3 4 _ (by decide) rfl M4) (kp3 5 _ (by decide) rfl M5) (kp3 6 _ (by decide) rfl M6) K7
      by_cases e : s' = s
      · rw [e]; exact nv
      · exact hA s' a (by omega)
    refine E_il rfl M8 ?_
    refine E_il rfl K9 ?_
    by_cases c1 : wj (gn h 101) x y p = wj (gn h 101) x y q
    · refine E_icT rfl (decide_eq_true (by rw [c1])) ?_
      exact next (fun z => z.1 c1)
    refine E_icF rfl (decide_eq_false (fun z => c1 ((nJ_eq (by omega) (by omega)).mp z))) ?_
    refine E_il rfl M8 ?_
    refine E_al rfl M0 ?_
    refine E_il rfl M6 ?_
    refine E_il rfl M1 ?_
    refine E_il rfl M2 ?_
    refine E_call rfl (sp_withJoin (d := d) hh (by omega) hx hy) (chk77 hh rfl rfl (by show 1 ≤ 8; decide)) (fun h3 r3 => ?_)
    rintro ⟨e3, f3⟩
    rw [e3, f3]
    by_cases c2 : wj (gn h 101) x y p = wj (gn h 101) x y r
    · refine E_icF rfl (decide_eq_false (fun z => z (by rw [c2]))) ?_
      refine E_il rfl K9 ?_
      refine E_al rfl M0 ?_
      refine E_il rfl M7 ?_
      refine E_il rfl M1 ?_
      refine E_il rfl M2 ?_
      refine E_call rfl (sp_withJoin (d := d) hh (by omega) hx hy) (chk77 hh rfl rfl (by show 1 ≤ 8; decide)) (fun h4 r4 => ?_)
      rintro ⟨e4, f4⟩
      rw [e4, f4]
      by_cases c3 : wj (gn h 101) x y q = wj (gn h 101) x y s
      · refine E_icF rfl (decide_eq_false (fun z => z (by rw [c3]))) ?_
        refine E_ci 0 rfl (by decide) ?_
        exact E_rtz rfl (.inl rfl) ⟨rfl, .inr ⟨fun m => m.2 ⟨p, q, r, s, p1, pq, qr, rs, by omega, c1, c2, c3⟩, rfl⟩⟩
      · refine E_icT rfl (decide_eq_true (fun z => c3 ((nJ_eq (by omega) (by omega)).mp z))) ?_
        exact next (fun z => c3 z.2.2)
    · refine E_icT rfl (decide_eq_true (fun z => c2 ((nJ_eq (by omega) (by omega)).mp z))) ?_
      exact next (fun z => c2 z.2.1)
theorem mj_r {n x y p q : Nat} (hh : HH h) (hx : x < 10) (hy : y < 10) (n9 : n ≤ 9) (p1 : 1 ≤ p) (pq : p < q) (qn : q ≤ n) (K : ∀ lv : List (Nat × Value), pm_get lv 0 = some (.ref 77) → pm_get lv 1 = some (.int (nJ x)) → pm_get lv 2 = some (.int (nJ y)) → pm_get lv 3 = some (.int (nJ n)) → pm_get lv 4 = some (.int (nJ p)) → pm_get lv 5 = some (.int (nJ q)) → (∀ r s, q < r → r < s → s ≤ n → ¬ VV (wj (gn h 101) x y) p q r s) → Ends (pm_at tX9_mayJoin) (pm_Rt pm_P (d + 1)) (129, lv, [], h, 0, 0) (MJQ n x y h)) (j : Nat) : ∀ {r : Nat} (lv : List (Nat × Value)), r + j = n + 1 → q < r → (∀ r' s, q < r' → r' < r → r' < s → s ≤ n → ¬ VV (wj (gn h 101) x y) p q r' s) → pm_get lv 0 = some (.ref 77) → pm_get lv 1 = some (.int (nJ x)) → pm_get lv 2 = some (.int (nJ y)) → pm_get lv 3 = some (.int (nJ n)) → pm_get lv 4 = some (.int (nJ p)) → pm_get lv 5 = some (.int (nJ q)) → pm_get lv 6 = some (.int (nJ r)) → Ends (pm_at tX9_mayJoin) (pm_Rt pm_P (d + 1)) (44, lv, [], h, 0, 0) (MJQ n x y h) := by
  induction j with
  | zero =>
    intro r lv hj qr hA L0 L1 L2 L3 L4 L5 L6
    refine E_il rfl L6 ?_
    refine E_il rfl L3 ?_
    refine E_icT rfl (decide_eq_true ((nJ_lt (by omega) (by omega)).mpr (by omega))) ?_
    exact K lv L0 L1 L2 L3 L4 L5 (fun r' s a b c => hA r' s a (by omega) b c)
  | succ j ih =>
    intro r lv hj qr hA L0 L1 L2 L3 L4 L5 L6
    refine E_il rfl L6 ?_
    refine E_il rfl L3 ?_
    refine E_icF rfl (decide_eq_false (fun z => absurd ((nJ_lt (by omega) (by omega)).mp z) (by omega))) ?_
    refine E_il rfl L6 ?_
    refine E_ci 1 rfl (by decide) ?_
    refine E_bin rfl (nJ_add _ _) ?_
    refine E_is rfl (fun lv1 K7 kp => ?_)
    refine mj_s hh hx hy n9 p1 pq qr (by omega) (fun lv2 M0 M1 M2 M3 M4 M5 M6 hB => ?_) (n + 1 - (r + 1)) (s := r + 1) lv1 (by omega) (by omega) (fun s' a b => by omega) (kp 0 _ (by decide) rfl L0) (kp 1 _ (by decide) rfl L1) (kp 2 _ (by decide) rfl L2) (kp 3 _ (by decide) rfl L3) (kp 4 _ (by decide) rfl L4) (kp 5 _ (by decide) rfl L5) (kp 6 _ (by decide) rfl L6) K7
    refine E_inc rfl M6 (nJ_inc _) (fun lv3 K6 kp3 => ?_)
    refine E_goto rfl ?_
    refine ih lv3 (r := r + 1) (by omega) (by omega) (fun r' s a b c e => ?_) (kp3 0 _ (by decide) rfl M0) (kp3 1 _ (by decide) rfl M1) (kp3 2 _ (by decide) rfl M2) (kp3 3 _ (by decide) rfl M3) (kp3 4 _ (by decide) rfl M4) (kp3 5 _ (by decide) rfl M5) K6
    by_cases z : r' = r
    · subst z; exact hB s c e
    · exact hA r' s a (by omega) c e
theorem mj_q {n x y p : Nat} (hh : HH h) (hx : x < 10) (hy : y < 10) (n9 : n ≤ 9) (p1 : 1 ≤ p) (pn : p ≤ n) (K : ∀ lv : List (Nat × Value), pm_get lv 0 = some (.ref 77) → pm_get lv 1 = some (.int (nJ x)) → pm_get lv 2 = some (.int (nJ y)) → pm_get lv 3 = some (.int (nJ n)) → pm_get lv 4 = some (.int (nJ p)) → (∀ q r s, p < q → q < r → r < s → s ≤ n → ¬ VV (wj (gn h 101) x y) p q r s) → Ends (pm_at tX9_mayJoin) (pm_Rt pm_P (d + 1)) (135, lv, [], h, 0, 0) (MJQ n x y h)) (j : Nat) : ∀ {q : Nat} (lv : List (Nat × Value)), q + j = n + 1 → p < q → (∀ q' r s, p < q' → q' < q → q' < r → r < s → s ≤ n → ¬ VV (wj (gn h 101) x y) p q' r s) → pm_get lv 0 = some (.ref 77) → pm_get lv 1 = some (.int (nJ x)) → pm_get lv 2 = some (.int (nJ y)) → pm_get lv 3 = some (.int (nJ n)) → pm_get lv 4 = some (.int (nJ p)) → pm_get lv 5 = some (.int (nJ q)) → Ends (pm_at tX9_mayJoin) (pm_Rt pm_P (d + 1)) (32, lv, [], h, 0, 0) (MJQ n x y h) := by
  induction j with
  | zero =>
    intro q lv hj pq hA L0 L1 L2 L3 L4 L5
    refine E_il rfl L5 ?_
    refine E_il rfl L3 ?_
    refine E_icT rfl (decide_eq_true ((nJ_lt (by omega) (by omega)).mpr (by omega))) ?_
    exact K lv L0 L1 L2 L3 L4 (fun q' r s a b c e => hA q' r s a (by omega) b c e)
  | succ j ih =>
    intro q lv hj pq hA L0 L1 L2 L3 L4 L5
    refine E_il rfl L5 ?_
    refine E_il rfl L3 ?_
    refine E_icF rfl (decide_eq_false (fun z => absurd ((nJ_lt (by omega) (by omega)).mp z) (by omega))) ?_
    refine E_il rfl L5 ?_
    refine E_ci 1 rfl (by decide) ?_
    refine E_bin rfl (nJ_add _ _) ?_
    refine E_is rfl (fun lv1 K6 kp => ?_)
    refine mj_r hh hx hy n9 p1 pq (by omega) (fun lv2 M0 M1 M2 M3 M4 M5 hB => ?_) (n + 1 - (q + 1)) (r := q + 1) lv1 (by omega) (by omega) (fun r' s a b c e => by omega) (kp 0 _ (by decide) rfl L0) (kp 1 _ (by decide) rfl L1) (kp 2 _ (by decide) rfl L2) (kp 3 _ (by decide) rfl L3) (kp 4 _ (by decide) rfl L4) (kp 5 _ (by decide) rfl L5) K6
    refine E_inc rfl M5 (nJ_inc _) (fun lv3 K5 kp3 => ?_)
    refine E_goto rfl ?_
    refine ih lv3 (q := q + 1) (by omega) (by omega) (fun q' r s a b c e f => ?_) (kp3 0 _ (by decide) rfl M0) (kp3 1 _ (by decide) rfl M1) (kp3 2 _ (by decide) rfl M2) (kp3 3 _ (by decide) rfl M3) (kp3 4 _ (by decide) rfl M4) K5
    by_cases z : q' = q
    · subst z; exact hB r s c e f
    · exact hA q' r s a (by omega) c e f
theorem mj_p {n x y : Nat} (hh : HH h) (hx : x < 10) (hy : y < 10) (n9 : n ≤ 9) (hne : gn h 101 x ≠ gn h 101 y) (j : Nat) : ∀ {p : Nat} (lv : List (Nat × Value)), p + j = n + 1 → 1 ≤ p → (∀ p' q r s, 1 ≤ p' → p' < p → p' < q → q < r → r < s → s ≤ n → ¬ VV (wj (gn h 101) x y) p' q r s) → pm_get lv 0 = some (.ref 77) → pm_get lv 1 = some (.int (nJ x)) → pm_get lv 2 = some (.int (nJ y)) → pm_get lv 3 = some (.int (nJ n)) → pm_get lv 4 = some (.int (nJ p)) → Ends (pm_at tX9_mayJoin) (pm_Rt pm_P (d + 1)) (20, lv, [], h, 0, 0) (MJQ n x y h) := by
  induction j with
  | zero =>
    intro p lv hj p1 hA L0 L1 L2 L3 L4
    refine E_il rfl L4 ?_
    refine E_il rfl L3 ?_
    refine E_icT rfl (decide_eq_true ((nJ_lt (by omega) (by omega)).mpr (by omega))) ?_
    refine E_ci 1 rfl (by decide) ?_
    refine E_rtz rfl (.inr rfl) ⟨rfl, .inl ⟨⟨hne, ?_⟩, rfl⟩⟩
    rintro ⟨p', q, r, s, a1, a2, a3, a4, a5, e1, e2, e3⟩
    exact hA p' q r s a1 (by omega) a2 a3 a4 a5 ⟨e1, e2, e3⟩
  | succ j ih =>
    intro p lv hj p1 hA L0 L1 L2 L3 L4
    refine E_il rfl L4 ?_
    refine E_il rfl L3 ?_
    refine E_icF rfl (decide_eq_false (fun z => absurd ((nJ_lt (by omega) (by omega)).mp z) (by omega))) ?_
    refine E_il rfl L4 ?_
    refine E_ci 1 rfl (by decide) ?_
    refine E_bin rfl (nJ_add _ _) ?_
    refine E_is rfl (fun lv1 K5 kp => ?_)
    refine mj_q hh hx hy n9 p1 (by omega) (fun lv2 M0 M1 M2 M3 M4 hB => ?_) (n + 1 - (p + 1)) (q := p + 1) lv1 (by omega) (by omega) (fun q' r s a b c e f => by omega) (kp 0 _ (by decide) rfl L0) (kp 1 _ (by decide) rfl L1) (kp 2 _ (by decide) rfl L2) (kp 3 _ (by decide) rfl L3) (kp 4 _ (by decide) rfl L4) K5
    refine E_inc rfl M4 (nJ_inc _) (fun lv3 K4 kp3 => ?_)
    refine E_goto rfl ?_
    refine ih lv3 (p := p + 1) (by omega) (by omega) (fun p' q r s a b c e f g => ?_) (kp3 0 _ (by decide) rfl M0) (kp3 1 _ (by decide) rfl M1) (kp3 2 _ (by decide) rfl M2) (kp3 3 _ (by decide) rfl M3) K4
    by_cases z : p' = p
    · subst z; exact hB q r s c e f g
    · exact hA p' q r s a (by omega) c e f g
theorem sp_mj {n x y : Nat} (hh : HH h) (hx : x < 10) (hy : y < 10) (n9 : n ≤ 9) : Sp (d + 2) 309 h [.ref 77, .int (nJ x), .int (nJ y), .int (nJ n)] (MJQ n x y h) := by
  obtain ⟨x1, x2⟩ := g101 hh hx
  obtain ⟨y1, y2⟩ := g101 hh hy
  refine Sp_of aiX9_mayJoin rfl rfl rfl ?_
  have L0 : pm_get (lv_args 0 [.ref 77, .int (nJ x), .int (nJ y), .int (nJ n)]) 0 = some (.ref 77) := rfl
  have L1 : pm_get (lv_args 0 [.ref 77, .int (nJ x), .int (nJ y), .int (nJ n)]) 1 = some (.int (nJ x)) := rfl
  have L2 : pm_get (lv_args 0 [.ref 77, .int (nJ x), .int (nJ y), .int (nJ n)]) 2 = some (.int (nJ y)) := rfl
  have L3 : pm_get (lv_args 0 [.ref 77, .int (nJ x), .int (nJ y), .int (nJ n)]) 3 = some (.int (nJ n)) := rfl
  generalize lv_args 0 [.ref 77, .int (nJ x), .int (nJ y), .int (nJ n)] = lv at L0 L1 L2 L3 ⊢
  refine E_al rfl L0 ?_
  refine E_gr rfl hh (q := 101) rfl ?_
  refine E_il rfl L1 ?_
  refine E_ial rfl hh rfl hx (by decide) x1 ?_
  refine E_al rfl L0 ?_
  refine E_gr rfl hh (q := 101) rfl ?_
  refine E_il rfl L2 ?_
  refine E_ial rfl hh rfl hy (by decide) y1 ?_
  by_cases e : gn h 101 x = gn h 101 y
  · refine E_icF rfl (decide_eq_false (fun z => z (by rw [e]))) ?_
    refine E_ci 0 rfl (by decide) ?_
    exact E_rtz rfl (.inl rfl) ⟨rfl, .inr ⟨fun m => m.1 e, rfl⟩⟩
  refine E_icT rfl (decide_eq_true (fun z => e ((nJ_eq (by omega) (by omega)).mp z))) ?_
  refine E_ci 1 rfl (by decide) ?_
  refine E_is rfl (fun lv1 K4 kp => ?_)
  exact mj_p (d := d) hh hx hy n9 e n (p := 1) lv1 (by omega) (by omega) (fun p' q r s a b c => by omega) (kp 0 _ (by decide) rfl L0) (kp 1 _ (by decide) rfl L1) (kp 2 _ (by decide) rfl L2) (kp 3 _ (by decide) rfl L3) K4
end RBK
