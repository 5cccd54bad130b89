section
theorem ws_out {h0 gA : pm_H} {d P c : Nat} (hP8 : P ≤ 8) (hc : c < P) (hP : gn gA 84 0 = P) (hf1 : fr_g TM h0 gA) (hgA : HH gA) (hF : ∀ v, 1 ≤ v → v ≤ P → dep (hg gA) 8 v ∧ gn gA 92 v ≤ P) (j : Nat) : ∀ {h : pm_H} {p n M : Nat} (lv : List (Nat × Value)), p + j = P + 1 → BF gA h P p 1 n M → pm_get lv 0 = some (.ref 77) → pm_get lv 2 = some (.int (nJ c)) → pm_get lv 4 = some (.int (nJ n)) → pm_get lv 5 = some (.int (nJ p)) → Ends (pm_at tX9_wish) (pm_Rt pm_P (d + 29)) (48, lv, [], h, 0, 0) (TQ h0) := by
  induction j with
  | zero =>
    intro h p n M lv hj B L0 L2 L4 L5
    have hpe : gn h 84 0 = P := by rw [fr_gn B.2.1 (rg_no rfl _)]; exact hP
    refine E_il rfl L5 ?_
    refine E_al rfl L0 ?_
    refine E_call rfl (sp_places B.1) (chk77 B.1 rfl rfl (by show 1 ≤ 8; decide)) (fun h1 r1 => ?_)
    rintro ⟨e1, f1, c1⟩
    rw [e1, f1]
    show Ends _ _ (54, lv, [.int (nJ (gn h 84 0)), .int (nJ p)], h, 0, 0) _
    refine E_icT rfl (decide_eq_true ((nJ_lt (by omega) (by omega)).mpr (by omega))) ?_
    refine E_c rfl ?_
    exact E_rti rfl ⟨B.1, fr_trans hf1 (fr_wk rfl B.2.1), _, rfl⟩
  | succ j ih =>
    intro h p n M lv hj B L0 L2 L4 L5
    have hpe : gn h 84 0 = P := by rw [fr_gn B.2.1 (rg_no rfl _)]; exact hP
    refine E_il rfl L5 ?_
    refine E_al rfl L0 ?_
    refine E_call rfl (sp_places B.1) (chk77 B.1 rfl rfl (by show 1 ≤ 8; decide)) (fun h1 r1 => ?_)
    rintro ⟨e1, f1, c1⟩
    rw [e1, f1]
    show Ends _ _ (54, lv, [.int (nJ (gn h 84 0)), .int (nJ p)], h, 0, 0) _
    refine E_icF rfl (decide_eq_false (fun q => absurd ((nJ_lt (by omega) (by omega)).mp q) (by omega))) ?_
    refine E_ci 1 rfl (by decide) ?_
    refine E_is rfl (fun lv2 L2_6 kp2 => ?_)
    have L2_0 := kp2 0 _ (by decide) rfl L0
    have L2_2 := kp2 2 _ (by decide) rfl L2
    have L2_4 := kp2 4 _ (by decide) rfl L4
    have L2_5 := kp2 5 _ (by decide) rfl L5
    exact ws_in hP8 hc hP hf1 hgA hF (by omega) (fun lv' a B' b c e f => ih lv' (by omega) B' b c e f) P (k := 1) lv2 (by omega) (by omega) (BF_lt B (by omega) hF) B L2_0 L2_2 L2_4 L2_5 L2_6
theorem tp_wish {h0 : pm_H} {d : Nat} {x y : Int32} (hh0 : HH h0) (hR : RI 0 h0) : Sp (d + 30) 374 h0 [.ref 77, .int x, .int y] (TQ h0) := by
  refine Sp_of aiX9_wish rfl rfl rfl ?_
  have L0 : pm_get (lv_args 0 [.ref 77, .int x, .int y]) 0 = some (.ref 77) := rfl
  have L1 : pm_get (lv_args 0 [.ref 77, .int x, .int y]) 1 = some (.int x) := rfl
  have L2 : pm_get (lv_args 0 [.ref 77, .int x, .int y]) 2 = some (.int y) := rfl
  generalize lv_args 0 [.ref 77, .int x, .int y] = lv at L0 L1 L2 ⊢
  refine E_al rfl L0 ?_
  refine E_ci 0 rfl (by decide) ?_
  refine E_pf rfl hh0 rfl ?_
  have hh1 : HH (pt h0 77 0 (nJ 0)) := HH_ptn hh0 rfl (by omega) (by omega) (by omega)
  have fr1 : fr_g TM h0 (pt h0 77 0 (nJ 0)) := fr_ptr (l := 0) (u := 0) rfl (by omega) (by omega) (fr_rf TM h0)
  refine E_al rfl L0 ?_
  refine E_il rfl L1 ?_
  refine E_il rfl L2 ?_
  refine E_i2l rfl ?_
  refine E_c rfl ?_
  refine E_al rfl L0 ?_
  refine E_call rfl (sp_places hh1) (chk77 hh1 rfl rfl (by show 6 ≤ 8; decide)) (fun h2 r2 => ?_)
  rintro ⟨e2, f2, c2⟩
  rw [e2, f2]
  show Ends _ _ (14, lv, [.int (nJ (gn (pt h0 77 0 (nJ 0)) 84 0)), .long (0), .long (y).toInt64, .int x, .ref 77], (pt h0 77 0 (nJ 0)), 0, 0) _
  refine E_i2l rfl ?_
  refine E_c rfl ?_
  refine E_lbin rfl ?_
  refine E_call rfl (sp_in (a := y.toInt) (b := 0) (c := (((((gn (pt h0 77 0 (nJ 0)) 84 0)) : Nat) : Int) - 1)) (i2l_toInt _) rfl (i2l_sub1 (by omega))) (chkS rfl (by show 2 ≤ 8; decide)) (fun h3 r3 => ?_)
  rintro ⟨e3, f3⟩
  rw [e3, f3]
  show Ends _ _ (20, lv, [.int (zb (0 ≤ y.toInt ∧ y.toInt ≤ (((((gn (pt h0 77 0 (nJ 0)) 84 0)) : Nat) : Int) - 1))), .int x, .ref 77], (pt h0 77 0 (nJ 0)), 0, 0) _
  refine E_call rfl (Sp_le (by omega) (sp_whyNotCode (d := 0) (p := 0 ≤ y.toInt ∧ y.toInt ≤ (((((gn (pt h0 77 0 (nJ 0)) 84 0)) : Nat) : Int) - 1)) hh1)) (chk77 hh1 rfl rfl (by show 0 ≤ 8; decide)) (fun h4 r4 => ?_)
  rintro ⟨e4, y4, f4, g4⟩
  rw [e4, f4]
  show Ends _ _ (23, lv, [.int y4], (pt h0 77 0 (nJ 0)), 0, 0) _
  refine E_is rfl (fun lv5 L5_3 kp5 => ?_)
  have L5_0 := kp5 0 _ (by decide) rfl L0
  have L5_1 := kp5 1 _ (by decide) rfl L1
  have L5_2 := kp5 2 _ (by decide) rfl L2
  refine E_il rfl L5_3 ?_
  by_cases hb6 : y4 = 0
  · refine E_ifT rfl (decide_eq_true hb6) ?_
    obtain ⟨sl, rfl, hCD, hpp⟩ := g4 hb6
    have hP8 : gn (pt h0 77 0 (nJ 0)) 84 0 ≤ 8 := gn_hi hh1 rfl (by decide)
    obtain ⟨k, hk, rfl⟩ := nJ_of2 (n := gn (pt h0 77 0 (nJ 0)) 84 0 - 1) hpp.1 (by have h9 := hpp.2; have h8 := hpp.1; have h7 := hCD.2.1; omega)
    have hk2 : k < gn (pt h0 77 0 (nJ 0)) 84 0 := by have h7 := hCD.2.1; omega
    refine E_al rfl L5_0 ?_
    refine E_il rfl L5_1 ?_
    refine E_call rfl (Sp_le (by omega) (sp_laysSlot (d := 0) hh1 hCD)) (chk77 hh1 rfl rfl (by show 0 ≤ 8; decide)) (fun h7 r7 => ?_)
    rintro ⟨e7, hh7, fq7, dq7⟩
    rw [e7]
    have fr7 : fr_g TM h0 h7 := fr_trans fr1 (fr_wk rfl fq7)
    have pe7 : gn h7 84 0 = gn (pt h0 77 0 (nJ 0)) 84 0 := fr_gn fq7 (rg_no rfl _)
    show Ends _ _ (35, lv5, [], h7, 0, 0) _
    refine E_ci 1 rfl (by decide) ?_
    refine E_is rfl (fun lv8 L8_4 kp8 => ?_)
    have L8_0 := kp8 0 _ (by decide) rfl L5_0
    have L8_1 := kp8 1 _ (by decide) rfl L5_1
    have L8_2 := kp8 2 _ (by decide) rfl L5_2
    have L8_3 := kp8 3 _ (by decide) rfl L5_3
    refine E_al rfl L8_0 ?_
    refine E_gr rfl hh7 (q := 93) rfl ?_
    refine E_ci 0 rfl (by decide) ?_
    refine E_ci 0 rfl (by decide) ?_
    refine E_ias rfl hh7 rfl (by omega) (by decide) ?_
    have hh9 : HH (pt h7 93 0 (nJ 0)) := HH_ptn hh7 (bd_u rfl (by omega)) (by omega) (by omega) (by omega)
    have fr9 : fr_g TM h0 (pt h7 93 0 (nJ 0)) := fr_ptr (l := 0) (u := 8) rfl (by omega) (by omega) fr7
    refine E_ci 0 rfl (by decide) ?_
    refine E_is rfl (fun lv10 L10_5 kp10 => ?_)
    have L10_0 := kp10 0 _ (by decide) rfl L8_0
    have L10_1 := kp10 1 _ (by decide) rfl L8_1
    have L10_2 := kp10 2 _ (by decide) rfl L8_2
    have L10_3 := kp10 3 _ (by decide) rfl L8_3
    have L10_4 := kp10 4 _ (by decide) rfl L8_4
    exact ws_out (P := gn h7 84 0) (by omega) (by omega) rfl fr7 hh7 (fun v h1 h2 => by have := dq7 v h1 (by omega); exact ⟨this.1, by omega⟩) (gn h7 84 0 + 1) (p := 0) (n := 1) (M := 1) lv10 (by omega) (BF_zero (by omega) hh7) L10_0 L10_2 L10_4 L10_5
  · refine E_ifF rfl (decide_eq_false hb6) ?_
    refine E_il rfl L5_3 ?_
    exact E_rti rfl ⟨hh1, fr1, _, rfl⟩
theorem nJ_mod {a b : Nat} (hb : 0 < b) (ha : a < 2147483648) (hb2 : b < 2147483648) : nJ a - nJ a / nJ b * nJ b = nJ (a % b) := by
  have h1 : (nJ a / nJ b) = nJ (a / b) := by
    apply Int32.toInt_inj.mp
    have := Nat.div_le_self a b
    rw [Int32.toInt_div, nJ_toInt ha, nJ_toInt hb2, nJ_toInt (by omega), ← Int.ofNat_tdiv]
    generalize a / b = q at this ⊢
    rw [Int.bmod_eq_of_le (by omega) (by omega)]
  have h2 : a / b * b ≤ a := Nat.div_mul_le_self a b
  rw [h1, nJ_mul, nJ_sub h2]
  congr 1
  have := Nat.div_add_mod a b
  rw [Nat.mul_comm] at this
  omega
theorem nJ_div {a b : Nat} (_ : 0 < b) (ha : a < 2147483648) (hb2 : b < 2147483648) : nJ a / nJ b = nJ (a / b) := by
  apply Int32.toInt_inj.mp
  have := Nat.div_le_self a b
  rw [Int32.toInt_div, nJ_toInt ha, nJ_toInt hb2, nJ_toInt (by omega), ← Int.ofNat_tdiv]
  generalize a / b = q at this ⊢
  rw [Int.bmod_eq_of_le (by omega) (by omega)]
theorem E_div {look : Nat → Option pm_I} {call : pm_Call} {Q : pm_H → Option Value → Prop} {pc n : Nat} {lv : List (Nat × Value)} {st : List Value} {w : pm_H × Nat × Nat} {op : Int32 → Int32 → Int32} {x y v : Int32} (h1 : look pc = some (.inl (s_div op n))) (h0 : ¬ y = 0) (e : op x y = v) (k : Ends look call (n, lv, .int v :: st, w) Q) : Ends look call (pc, lv, .int y :: .int x :: st, w) Q := by
  subst e; exact E_st h1 (by simp only [s_div, if_neg h0]) k
theorem tr_in {h0 : pm_H} {d n A x : Nat} {y so : Int32} (hn1 : 1 ≤ n) (hn5 : n ≤ 5) (hA : A ≤ 7776) (hx : x < A) (K : ∀ {h : pm_H} {so : Int32} (lv : List (Nat × Value)), HH h → fr_g TM h0 h → pm_get lv 0 = some (.ref 77) → pm_get lv 1 = some (.int (nJ n)) → pm_get lv 2 = some (.int y) → pm_get lv 3 = some (.int (nJ A)) → pm_get lv 4 = some (.int so) → pm_get lv 5 = some (.int (nJ (x + 1))) → Ends (pm_at tX9_trees) (pm_Rt pm_P (d + 29)) (59, lv, [], h, 0, 0) (TQ h0)) (j : Nat) : ∀ {h : pm_H} {i u : Nat} (lv : List (Nat × Value)), i + j = n - 1 → u < 7776 → HH h → fr_g TM h0 h → (∀ i1, i1 < i → gn h 95 i1 ≤ n) → pm_get lv 0 = some (.ref 77) → pm_get lv 1 = some (.int (nJ n)) → pm_get lv 2 = some (.int y) → pm_get lv 3 = some (.int (nJ A)) → pm_get lv 4 = some (.int so) → pm_get lv 5 = some (.int (nJ x)) → pm_get lv 6 = some (.int (nJ u)) → pm_get lv 7 = some (.int (nJ i)) → Ends (pm_at tX9_trees) (pm_Rt pm_P (d + 29)) (72, lv, [], h, 0, 0) (TQ h0) := by
  induction j with
  | zero =>
    intro h i u lv hj hu hh hfr hc L0 L1 L2 L3 L4 L5 L6 L7
    refine E_il rfl L7 ?_
    refine E_il rfl L1 ?_
    refine E_ci 1 rfl (by decide) ?_
    refine E_bin rfl (nJ_sub (by omega)) ?_
    refine E_icT rfl (decide_eq_true ((nJ_le (by omega) (by omega)).mpr (by omega))) ?_
    refine E_al rfl L0 ?_
    refine E_il rfl L1 ?_
    refine E_ci 1 rfl (by decide) ?_
    refine E_bin rfl (nJ_add _ _) ?_
    refine E_call rfl (Sp_le (by omega) (sp_reads0 (d := 0) (N := n + 1) hh (by omega) (by omega) (fun j hj => by have := hc j (by omega); omega))) (chk77 hh rfl rfl (by show 0 ≤ 8; decide)) (fun h1 r1 => ?_)
    rintro ⟨e1, hh1, fq1, dq1⟩
    rw [e1]
    have fr1 : fr_g TM h0 h1 := fr_trans hfr (fr_wk rfl fq1)
    show Ends _ _ (114, lv, [], h1, 0, 0) _
    refine E_il rfl L4 ?_
    refine E_al rfl L0 ?_
    refine E_il rfl L1 ?_
    refine E_call rfl (Sp_le (by omega) (sp_turnedIn (d := 0) hh1 (by omega) (fun v h1 h2 => (fun v h1 h2 => (dq1 v h1 h2).1) v h1 (by omega)))) (chk77 hh1 rfl rfl (by show 1 ≤ 8; decide)) (fun h2 r2 => ?_)
    rintro ⟨e2, x2, f2⟩
    rw [e2, f2]
    show Ends _ _ (121, lv, [.int x2, .int so], h1, 0, 0) _
    refine E_il rfl L2 ?_
    by_cases hb3 : ¬ x2 = y
    · refine E_icT rfl (decide_eq_true hb3) ?_
      refine E_ci 0 rfl (by decide) ?_
      refine E_bin rfl rfl ?_
      refine E_is rfl (fun lv4 L4_4 kp4 => ?_)
      have L4_0 := kp4 0 _ (by decide) rfl L0
      have L4_1 := kp4 1 _ (by decide) rfl L1
      have L4_2 := kp4 2 _ (by decide) rfl L2
      have L4_3 := kp4 3 _ (by decide) rfl L3
      have L4_5 := kp4 5 _ (by decide) rfl L5
      have L4_6 := kp4 6 _ (by decide) rfl L6
      have L4_7 := kp4 7 _ (by decide) rfl L7
      refine E_inc rfl L4_5 (nJ_inc _) (fun lv5 L5_5 kp5 => ?_)
      have L5_0 := kp5 0 _ (by decide) rfl L4_0
      have L5_1 := kp5 1 _ (by decide) rfl L4_1
      have L5_2 := kp5 2 _ (by decide) rfl L4_2
      have L5_3 := kp5 3 _ (by decide) rfl L4_3
      have L5_4 := kp5 4 _ (by decide) rfl L4_4
      have L5_6 := kp5 6 _ (by decide) rfl L4_6
      have L5_7 := kp5 7 _ (by decide) rfl L4_7
      refine E_goto rfl ?_
      exact K lv5 hh1 fr1 L5_0 L5_1 L5_2 L5_3 L5_4 L5_5
    · refine E_icF rfl (decide_eq_false hb3) ?_
      refine E_ci 1 rfl (by decide) ?_
      refine E_goto rfl ?_
      refine E_bin rfl rfl ?_
      refine E_is rfl (fun lv6 L6_4 kp6 => ?_)
      have L6_0 := kp6 0 _ (by decide) rfl L0
      have L6_1 := kp6 1 _ (by decide) rfl L1
      have L6_2 := kp6 2 _ (by decide) rfl L2
      have L6_3 := kp6 3 _ (by decide) rfl L3
      have L6_5 := kp6 5 _ (by decide) rfl L5
      have L6_6 := kp6 6 _ (by decide) rfl L6
      have L6_7 := kp6 7 _ (by decide) rfl L7
      refine E_inc rfl L6_5 (nJ_inc _) (fun lv7 L7_5 kp7 => ?_)
      have L7_0 := kp7 0 _ (by decide) rfl L6_0
      have L7_1 := kp7 1 _ (by decide) rfl L6_1
      have L7_2 := kp7 2 _ (by decide) rfl L6_2
      have L7_3 := kp7 3 _ (by decide) rfl L6_3
      have L7_4 := kp7 4 _ (by decide) rfl L6_4
      have L7_6 := kp7 6 _ (by decide) rfl L6_6
      have L7_7 := kp7 7 _ (by decide) rfl L6_7
      refine E_goto rfl ?_
      exact K lv7 hh1 fr1 L7_0 L7_1 L7_2 L7_3 L7_4 L7_5
  | succ j ih =>
    intro h i u lv hj hu hh hfr hc L0 L1 L2 L3 L4 L5 L6 L7
    refine E_il rfl L7 ?_
    refine E_il rfl L1 ?_
    refine E_ci 1 rfl (by decide) ?_
    refine E_bin rfl (nJ_sub (by omega)) ?_
    refine E_icF rfl (decide_eq_false (fun q => absurd ((nJ_le (by omega) (by omega)).mp q) (by omega))) ?_
    refine E_al rfl L0 ?_
    refine E_gr rfl hh (q := 95) rfl ?_
    refine E_il rfl L7 ?_
    refine E_il rfl L6 ?_
    refine E_il rfl L1 ?_
    refine E_ci 1 rfl (by decide) ?_
    refine E_bin rfl (nJ_add _ _) ?_
    have hmd := Nat.mod_lt u (show 0 < n + 1 by omega)
    refine E_div rfl (fun q => absurd ((nJ_eq0 (by omega)).mp q) (by omega)) (nJ_mod (by omega) (by omega) (by omega)) ?_
    refine E_ias rfl hh rfl (by omega) (by decide) ?_
    have hh1 : HH (pt h 95 i (nJ ((u % (n + 1))))) := HH_ptn hh (bd_u rfl (by omega)) (by omega) (by omega) (by omega)
    have fr1 : fr_g TM h0 (pt h 95 i (nJ ((u % (n + 1))))) := fr_ptr (l := 0) (u := 7) rfl (by omega) (by omega) hfr
    refine E_il rfl L6 ?_
    refine E_il rfl L1 ?_
    refine E_ci 1 rfl (by decide) ?_
    refine E_bin rfl (nJ_add _ _) ?_
    have hdv := Nat.div_le_self u (n + 1)
    refine E_div rfl (fun q => absurd ((nJ_eq0 (by omega)).mp q) (by omega)) (nJ_div (by omega) (by omega) (by omega)) ?_
    refine E_is rfl (fun lv2 L2_6 kp2 => ?_)
    have L2_0 := kp2 0 _ (by decide) rfl L0
    have L2_1 := kp2 1 _ (by decide) rfl L1
    have L2_2 := kp2 2 _ (by decide) rfl L2
    have L2_3 := kp2 3 _ (by decide) rfl L3
    have L2_4 := kp2 4 _ (by decide) rfl L4
    have L2_5 := kp2 5 _ (by decide) rfl L5
    have L2_7 := kp2 7 _ (by decide) rfl L7
    refine E_inc rfl L2_7 (nJ_inc _) (fun lv3 L3_7 kp3 => ?_)
    have L3_0 := kp3 0 _ (by decide) rfl L2_0
    have L3_1 := kp3 1 _ (by decide) rfl L2_1
    have L3_2 := kp3 2 _ (by decide) rfl L2_2
    have L3_3 := kp3 3 _ (by decide) rfl L2_3
    have L3_4 := kp3 4 _ (by decide) rfl L2_4
    have L3_5 := kp3 5 _ (by decide) rfl L2_5
    have L3_6 := kp3 6 _ (by decide) rfl L2_6
    refine E_goto rfl ?_
    refine ih lv3 (by omega) (by omega) hh1 fr1 (fun i1 h1 => ?_) L3_0 L3_1 L3_2 L3_3 L3_4 L3_5 L3_6 L3_7
    by_cases e : i1 = i
    · rw [e, gn_ptn hh (bd_u rfl (by omega)) (by omega) (by omega) (by omega)]; omega
    · rw [gn_ne (fun _ => e)]; exact hc i1 (by omega)
end
