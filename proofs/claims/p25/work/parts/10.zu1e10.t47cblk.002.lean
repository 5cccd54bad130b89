section
section CBK
variable {h : pm_H} {d : Nat}
theorem sp_join {n x y : Nat} {b : Nat → Nat} (hh : HH h) (M : MK n b h) (x1 : 1 ≤ x) (xn : x ≤ n) (y1 : 1 ≤ y) (yn : y ≤ n) : Sp (d + 2) 15 h [.ref 13, .int (nJ x), .int (nJ y)] (fun h' r => r = none ∧ HH h' ∧ fr_g [(14, 0, 9)] h h' ∧ MK n (mg b x y) h') := by
  obtain ⟨m1, n1, n9, m2⟩ := id M
  refine Sp_of aiX0_join rfl rfl rfl ?_
  have L0 : pm_get (lv_args 0 [.ref 13, .int (nJ x), .int (nJ y)]) 0 = some (.ref 13) := rfl
  have L1 : pm_get (lv_args 0 [.ref 13, .int (nJ x), .int (nJ y)]) 1 = some (.int (nJ x)) := rfl
  have L2 : pm_get (lv_args 0 [.ref 13, .int (nJ x), .int (nJ y)]) 2 = some (.int (nJ y)) := rfl
  generalize lv_args 0 [.ref 13, .int (nJ x), .int (nJ y)] = lv at L0 L1 L2 ⊢
  refine E_al rfl L0 ?_
  refine E_ogr (q := 14) rfl hh rfl rfl ?_
  refine E_il rfl L1 ?_
  refine E_ial rfl hh rfl (by omega) (by decide) (m2 x x1 xn) ?_
  refine E_al rfl L0 ?_
  refine E_ogr (q := 14) rfl hh rfl rfl ?_
  refine E_il rfl L2 ?_
  refine E_ial rfl hh rfl (by omega) (by decide) (m2 y y1 yn) ?_
  refine E_bin rfl (mkb_or n9) ?_
  refine E_is rfl (fun lv1 K3 kp1 => ?_)
  refine E_ci 1 rfl (by decide) ?_
  refine E_is rfl (fun lv2 K4 kp2 => ?_)
  refine Ends_mono ?_ (jn_loop (d := d) n9 m2 n (i := 0) lv2 (by omega) hh (fr_rf _ _) m1 (fun k k1 k2 => by omega) (fun k _ => rfl) (kp2 0 _ (by decide) rfl (kp1 0 _ (by decide) rfl L0)) (kp2 3 _ (by decide) rfl K3) K4)
  rintro h' r ⟨q1, q2, q3, q4⟩
  exact ⟨q1, q2, q3, by rw [fr_gi q3 rfl]; exact m1, n1, n9, q4⟩
theorem ms_one {k : Nat} (k1 : 1 ≤ k) : ∀ n, ms (fun i => Nat.beq i k) n = if k ≤ n then 2 ^ (k - 1) else 0
  | 0 => by rw [if_neg (by omega)]; rfl
  | n + 1 => by
    show ms (fun i => Nat.beq i k) n + (bif Nat.beq (n + 1) k then 2 ^ n else 0) = _
    rw [ms_one k1 n]
    by_cases e : n + 1 = k
    · rw [nbeq.mpr e, if_neg (by omega), if_pos (by omega), ← e]
      show 0 + 2 ^ n = 2 ^ (n + 1 - 1)
      rw [Nat.zero_add]
      rfl
    · rw [nbeqF e]
      by_cases q : k ≤ n
      · rw [if_pos q, if_pos (by omega)]; rfl
      · rw [if_neg q, if_neg (by omega)]; rfl
theorem mkb_id {n k : Nat} (k1 : 1 ≤ k) (kn : k ≤ n) : mkb n (fun k => k) k = 2 ^ (k - 1) := by
  unfold mkb
  show ms (fun i => Nat.beq i k) n = _
  rw [ms_one k1 n, if_pos kn]
theorem st_lp {n : Nat} {h0 : pm_H} (n9 : n ≤ 9) (j : Nat) : ∀ {h : pm_H} {i : Nat} (lv : List (Nat × Value)), i + j = n → HH h → fr_g [(13, 1, 1), (14, 0, 9)] h0 h → gi h 13 1 = nJ n → (∀ k, 1 ≤ k → k ≤ i → gi h 14 k = nJ (2 ^ (k - 1))) → pm_get lv 0 = some (.ref 13) → pm_get lv 2 = some (.int (nJ (i + 1))) → Ends (pm_at tX0_start) (pm_Rt pm_P (d + 1)) (7, lv, [], h, 0, 0) (fun h' r => r = none ∧ HH h' ∧ fr_g [(13, 1, 1), (14, 0, 9)] h0 h' ∧ gi h' 13 1 = nJ n ∧ ∀ k, 1 ≤ k → k ≤ n → gi h' 14 k = nJ (2 ^ (k - 1))) := by
  induction j with
  | zero =>
    intro h i lv hj hh hf m1 hA L0 L2
    refine E_il rfl L2 ?_
    refine E_al rfl L0 ?_
    refine E_ogf (q := (0, 9)) rfl hh rfl rfl m1 ?_
    refine E_icT rfl (decide_eq_true ((nJ_lt (by omega) (by omega)).mpr (by omega))) ?_
    exact E_ret rfl ⟨rfl, hh, hf, m1, fun k k1 k2 => hA k k1 (by omega)⟩
  | succ j ih =>
    intro h i lv hj hh hf m1 hA L0 L2
    refine E_il rfl L2 ?_
    refine E_al rfl L0 ?_
    refine E_ogf (q := (0, 9)) rfl hh rfl rfl m1 ?_
    refine E_icF rfl (decide_eq_false (fun z => absurd ((nJ_lt (by omega) (by omega)).mp z) (by omega))) ?_
    refine E_al rfl L0 ?_
    refine E_ogr (q := 14) rfl hh rfl rfl ?_
    refine E_il rfl L2 ?_
    refine E_il rfl L2 ?_
    refine E_call rfl (sp_placeBit (d := d) (k := i + 1) (by omega) (by omega)) (chkS rfl (by show 2 ≤ 8; decide)) (fun h1 r1 => ?_)
    rintro ⟨e1, f1⟩
    rw [e1, f1]
    have b14 : bd 14 (i + 1) = some (0, 511) := bd_u rfl (by omega)
    have pw : 2 ^ (i + 1 - 1) ≤ 2 ^ 8 := Nat.pow_le_pow_right (by omega) (by omega)
    have pw2 : (2 : Nat) ^ 8 = 256 := rfl
    obtain ⟨P, hP⟩ : ∃ P, P = 2 ^ (i + 1 - 1) := ⟨_, rfl⟩
    rw [← hP] at pw ⊢
    refine E_ias rfl hh rfl (by omega) (by decide) ?_
    refine E_inc rfl L2 (nJ_inc _) (fun lv1 K2 kp => ?_)
    refine E_goto rfl ?_
    refine ih lv1 (i := i + 1) (by omega) (HH_ptn hh b14 (by omega) (by omega) (by omega)) (fr_ptr (l := 0) (u := 9) rfl (by omega) (by omega) hf) (by rw [gi_ne (by omega)]; exact m1) (fun k k1 k2 => ?_) (kp 0 _ (by decide) rfl L0) K2
    by_cases e : k = i + 1
    · rw [e, ← hP]; exact gi_ptn hh b14 (by omega) (by omega) (by omega)
    · rw [gi_ne (fun _ => e)]; exact hA k k1 (by omega)
theorem sp_start {n : Nat} (hh : HH h) (n1 : 1 ≤ n) (n9 : n ≤ 9) : Sp (d + 2) 18 h [.ref 13, .int (nJ n)] (fun h' r => r = none ∧ HH h' ∧ fr_g [(13, 1, 1), (14, 0, 9)] h h' ∧ MK n (fun k => k) h') := by
  refine Sp_of aiX0_start rfl rfl rfl ?_
  have L0 : pm_get (lv_args 0 [.ref 13, .int (nJ n)]) 0 = some (.ref 13) := rfl
  have L1 : pm_get (lv_args 0 [.ref 13, .int (nJ n)]) 1 = some (.int (nJ n)) := rfl
  generalize lv_args 0 [.ref 13, .int (nJ n)] = lv at L0 L1 ⊢
  refine E_al rfl L0 ?_
  refine E_il rfl L1 ?_
  refine E_opf (q := (0, 9)) rfl hh rfl rfl ?_
  have hh1 : HH (pt h 13 1 (nJ n)) := HH_ptn hh rfl (by omega) (by omega) (by omega)
  refine E_ci 1 rfl (by decide) ?_
  refine E_is rfl (fun lv1 K2 kp => ?_)
  refine Ends_mono ?_ (st_lp (d := d) (h0 := h) n9 n (i := 0) lv1 (by omega) hh1 (fr_ptr (l := 1) (u := 1) rfl (by omega) (by omega) (fr_rf _ _)) (gi_ptn hh rfl (by omega) (by omega) (by omega)) (fun k k1 k2 => by omega) (kp 0 _ (by decide) rfl L0) K2)
  rintro h' r ⟨q1, q2, q3, q4, q5⟩
  exact ⟨q1, q2, q3, q4, n1, n9, fun k k1 k2 => by rw [mkb_id k1 k2]; exact q5 k k1 k2⟩
end CBK
end
section
/-! the reference's blocks: whether two may be joined (wants t45, 10.ztg) -/
section RBK
variable {h : pm_H} {d : Nat}
theorem g101 (hh : HH h) {k : Nat} (hk : k < 10) : gi h 101 k = nJ (gn h 101 k) ∧ gn h 101 k ≤ 9 := ⟨gi_gn hh (bd_u rfl hk) (by decide), gn_hi hh (bd_u rfl hk) (by decide)⟩
theorem wj_le {b : Nat → Nat} {x y k : Nat} (h : b k ≤ 9) : wj b x y k ≤ 9 := by
  unfold wj
  split <;> omega
theorem sp_withJoin {k x y : Nat} (hh : HH h) (hk : k < 10) (hx : x < 10) (hy : y < 10) : Sp (d + 1) 375 h [.ref 77, .int (nJ k), .int (nJ x), .int (nJ y)] (fun h' r => h' = h ∧ r = some (.int (nJ (wj (gn h 101) x y k)))) := by
  obtain ⟨k1, k2⟩ := g101 hh hk
  obtain ⟨x1, x2⟩ := g101 hh hx
  obtain ⟨y1, y2⟩ := g101 hh hy
  refine Sp_of aiX9_withJoin rfl rfl rfl ?_
  have L0 : pm_get (lv_args 0 [.ref 77, .int (nJ k), .int (nJ x), .int (nJ y)]) 0 = some (.ref 77) := rfl
  have L1 : pm_get (lv_args 0 [.ref 77, .int (nJ k), .int (nJ x), .int (nJ y)]) 1 = some (.int (nJ k)) := rfl
  have L2 : pm_get (lv_args 0 [.ref 77, .int (nJ k), .int (nJ x), .int (nJ y)]) 2 = some (.int (nJ x)) := rfl
  have L3 : pm_get (lv_args 0 [.ref 77, .int (nJ k), .int (nJ x), .int (nJ y)]) 3 = some (.int (nJ y)) := rfl
  generalize lv_args 0 [.ref 77, .int (nJ k), .int (nJ x), .int (nJ y)] = lv at L0 L1 L2 L3 ⊢
  refine E_al rfl L0 ?_
  refine E_gr rfl hh (q := 101) rfl ?_
  refine E_il rfl L1 ?_
  refine E_ial rfl hh rfl hk (by decide) k1 ?_
  refine E_al rfl L0 ?_
  refine E_gr rfl hh (q := 101) rfl ?_
  refine E_il rfl L2 ?_
  refine E_ial rfl hh rfl hx (by decide) x1 ?_
  have yes : (gn h 101 k = gn h 101 x ∨ gn h 101 k = gn h 101 y) → Ends (pm_at tX9_withJoin) (pm_Rt pm_P d) (30, lv, [], h, 0, 0) (fun h' r => h' = h ∧ r = some (.int (nJ (wj (gn h 101) x y k)))) := by
    intro q
    refine E_ci 0 rfl (by decide) ?_
    refine E_goto rfl ?_
    exact E_rti rfl ⟨rfl, by rw [show wj (gn h 101) x y k = 0 from if_pos q]⟩
  by_cases e1 : gn h 101 k = gn h 101 x
  · refine E_icT rfl (decide_eq_true (by rw [e1])) ?_
    exact yes (.inl e1)
  refine E_icF rfl (decide_eq_false (fun z => e1 ((nJ_eq (by omega) (by omega)).mp z))) ?_
  refine E_al rfl L0 ?_
  refine E_gr rfl hh (q := 101) rfl ?_
  refine E_il rfl L1 ?_
  refine E_ial rfl hh rfl hk (by decide) k1 ?_
  refine E_al rfl L0 ?_
  refine E_gr rfl hh (q := 101) rfl ?_
  refine E_il rfl L3 ?_
  refine E_ial rfl hh rfl hy (by decide) y1 ?_
  by_cases e2 : gn h 101 k = gn h 101 y
  · refine E_icF rfl (decide_eq_false (fun z => z (by rw [e2]))) ?_
    exact yes (.inr e2)
  refine E_icT rfl (decide_eq_true (fun z => e2 ((nJ_eq (by omega) (by omega)).mp z))) ?_
  refine E_al rfl L0 ?_
  refine E_gr rfl hh (q := 101) rfl ?_
  refine E_il rfl L1 ?_
  refine E_ial rfl hh rfl hk (by decide) k1 ?_
  exact E_rti rfl ⟨rfl, by rw [show wj (gn h 101) x y k = gn h 101 k from if_neg (fun q => q.elim e1 e2)]⟩
noncomputable def MJQ (n x y : Nat) (h h' : pm_H) (r : Option Value) : Prop := h' = h ∧ ((MAY n (gn h 101) x y ∧ r = some (.int (nJ 1))) ∨ (¬ MAY n (gn h 101) x y ∧ r = some (.int (nJ 0))))
noncomputable def VV (w : Nat → Nat) (p q r s : Nat) : Prop := w p ≠ w q ∧ w p = w r ∧ w q = w s
theorem mj_s {n x y p q r : Nat} (hh : HH h) (hx : x < 10) (hy : y < 10) (n9 : n ≤ 9) (p1 : 1 ≤ p) (pq : p < q) (qr : q < r) (rn : r ≤ n) (K : ∀ lv : List (Nat × Value), pm_get lv 0 = some (.ref 77) → pm_get lv 1 = some (.int (nJ x)) → pm_get lv 2 = some (.int (nJ y)) → pm_get lv 3 = some (.int (nJ n)) → pm_get lv 4 = some (.int (nJ p)) → pm_get lv 5 = some (.int (nJ q)) → pm_get lv 6 = some (.int (nJ r)) → (∀ s, r < s → s ≤ n → ¬ VV (wj (gn h 101) x y) p q r s) → Ends (pm_at tX9_mayJoin) (pm_Rt pm_P (d + 1)) (123, lv, [], h, 0, 0) (MJQ n x y h)) (j : Nat) : ∀ {s : Nat} (lv : List (Nat × Value)), s + j = n + 1 → r < s → (∀ s', r < s' → s' < s → ¬ VV (wj (gn h 101) x y) p q r s') → pm_get lv 0 = some (.ref 77) → pm_get lv 1 = some (.int (nJ x)) → pm_get lv 2 = some (.int (nJ y)) → pm_get lv 3 = some (.int (nJ n)) → pm_get lv 4 = some (.int (nJ p)) → pm_get lv 5 = some (.int (nJ q)) → pm_get lv 6 = some (.int (nJ r)) → pm_get lv 7 = some (.int (nJ s)) → Ends (pm_at tX9_mayJoin) (pm_Rt pm_P (d + 1)) (56, lv, [], h, 0, 0) (MJQ n x y h) := by
  have wp := wj_le (x := x) (y := y) (g101 hh (k := p) (by omega)).2
  have wq := wj_le (x := x) (y := y) (g101 hh (k := q) (by omega)).2
  have wr := wj_le (x := x) (y := y) (g101 hh (k := r) (by omega)).2
  induction j with
  | zero =>
    intro s lv hj rs hA L0 L1 L2 L3 L4 L5 L6 L7
    refine E_il rfl L7 ?_
    refine E_il rfl L3 ?_
    refine E_icT rfl (decide_eq_true ((nJ_lt (by omega) (by omega)).mpr (by omega))) ?_
    exact K lv L0 L1 L2 L3 L4 L5 L6 (fun s' a b => hA s' a (by omega))
  | succ j ih =>
    intro s lv hj rs hA L0 L1 L2 L3 L4 L5 L6 L7
    have ws := wj_le (x := x) (y := y) (g101 hh (k := s) (by omega)).2
    refine E_il rfl L7 ?_
    refine E_il rfl L3 ?_
    refine E_icF rfl (decide_eq_false (fun z => absurd ((nJ_lt (by omega) (by omega)).mp z) (by omega))) ?_
    refine E_al rfl L0 ?_
    refine E_il rfl L4 ?_
    refine E_il rfl L1 ?_
    refine E_il rfl L2 ?_
    refine E_call rfl (sp_withJoin (d := d) hh (by omega) hx hy) (chk77 hh rfl rfl (by show 0 ≤ 8; decide)) (fun h1 r1 => ?_)
    rintro ⟨e1, f1⟩
    rw [e1, f1]
    refine E_is rfl (fun lv1 K8 kp1 => ?_)
    refine E_al rfl (kp1 0 _ (by decide) rfl L0) ?_
    refine E_il rfl (kp1 5 _ (by decide) rfl L5) ?_
    refine E_il rfl (kp1 1 _ (by decide) rfl L1) ?_
    refine E_il rfl (kp1 2 _ (by decide) rfl L2) ?_
    refine E_call rfl (sp_withJoin (d := d) hh (by omega) hx hy) (chk77 hh rfl rfl (by show 0 ≤ 8; decide)) (fun h2 r2 => ?_)
    rintro ⟨e2, f2⟩
    rw [e2, f2]
    refine E_is rfl (fun lv2 K9 kp2 => ?_)
    have M0 := kp2 0 _ (by decide) rfl (kp1 0 _ (by decide) rfl L0)
    have M1 := kp2 1 _ (by decide) rfl (kp1 1 _ (by decide) rfl L1)
    have M2 := kp2 2 _ (by decide) rfl (kp1 2 _ (by decide) rfl L2)
    have M3 := kp2 3 _ (by decide) rfl (kp1 3 _ (by decide) rfl L3)
    have M4 := kp2 4 _ (by decide) rfl (kp1 4 _ (by decide) rfl L4)
    have M5 := kp2 5 _ (by decide) rfl (kp1 5 _ (by decide) rfl L5)
    have M6 := kp2 6 _ (by decide) rfl (kp1 6 _ (by decide) rfl L6)
    have M7 := kp2 7 _ (by decide) rfl (kp1 7 _ (by decide) rfl L7)
    have M8 := kp2 8 _ (by decide) rfl K8
    have next : ¬ VV (wj (gn h 101) x y) p q r s → Ends (pm_at tX9_mayJoin) (pm_Rt pm_P (d + 1)) (117, lv2, [], h, 0, 0) (MJQ n x y h) := by
      intro nv
      refine E_inc rfl M7 (nJ_inc _) (fun lv3 K7 kp3 => ?_)
      refine E_goto rfl ?_
      refine ih lv3 (s := s + 1) (by omega) (by omega) (fun s' a b => ?_) (kp3 0 _ (by decide) rfl M0) (kp3 1 _ (by decide) rfl M1) (kp3 2 _ (by decide) rfl M2) (kp3 3 _ (by decide) rfl M3) (kp3 4 _ (by decide) rfl M4) (kp3 5 _ (by decide) rfl M5) (kp3 6 _ (by decide) rfl M6) K7
      by_cases e : s' = s
      · rw [e]; exact nv
      · exact hA s' a (by omega)
    refine E_il rfl M8 ?_
    refine E_il rfl K9 ?_
    by_cases c1 : wj (gn h 101) x y p = wj (gn h 101) x y q
    · refine E_icT rfl (decide_eq_true (by rw [c1])) ?_
      exact next (fun z => z.1 c1)
    refine E_icF rfl (decide_eq_false (fun z => c1 ((nJ_eq (by omega) (by omega)).mp z))) ?_
    refine E_il rfl M8 ?_
    refine E_al rfl M0 ?_
    refine E_il rfl M6 ?_
    refine E_il rfl M1 ?_
    refine E_il rfl M2 ?_
    refine E_call rfl (sp_withJoin (d := d) hh (by omega) hx hy) (chk77 hh rfl rfl (by show 1 ≤ 8; decide)) (fun h3 r3 => ?_)
    rintro ⟨e3, f3⟩
    rw [e3, f3]
    by_cases c2 : wj (gn h 101) x y p = wj (gn h 101) x y r
    · refine E_icF rfl (decide_eq_false (fun z => z (by rw [c2]))) ?_
      refine E_il rfl K9 ?_
      refine E_al rfl M0 ?_
      refine E_il rfl M7 ?_
      refine E_il rfl M1 ?_
      refine E_il rfl M2 ?_
      refine E_call rfl (sp_withJoin (d := d) hh (by omega) hx hy) (chk77 hh rfl rfl (by show 1 ≤ 8; decide)) (fun h4 r4 => ?_)
      rintro ⟨e4, f4⟩
      rw [e4, f4]
      by_cases c3 : wj (gn h 101) x y q = wj (gn h 101) x y s
      · refine E_icF rfl (decide_eq_false (fun z => z (by rw [c3]))) ?_
        refine E_ci 0 rfl (by decide) ?_
        exact E_rtz rfl (.inl rfl) ⟨rfl, .inr ⟨fun m => m.2 ⟨p, q, r, s, p1, pq, qr, rs, by omega, c1, c2, c3⟩, rfl⟩⟩
      · refine E_icT rfl (decide_eq_true (fun z => c3 ((nJ_eq (by omega) (by omega)).mp z))) ?_
        exact next (fun z => c3 z.2.2)
    · refine E_icT rfl (decide_eq_true (fun z => c2 ((nJ_eq (by omega) (by omega)).mp z))) ?_
      exact next (fun z => c2 z.2.1)
end RBK
end
