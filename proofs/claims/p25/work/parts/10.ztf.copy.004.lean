section
theorem lb_two {h0 : pm_H} {d n : Nat} (hh0 : HH h0) (hn : n ≤ 8) (j : Nat) : ∀ {h : pm_H} {i : Nat} (lv : List (Nat × Value)), i + j = n → HH h → fr_g KM h0 h → (∀ k, k < 10 → gn h 101 k = bk (gn h0 86) i k) → pm_get lv 0 = some (.ref 77) → pm_get lv 1 = some (.int (nJ 4)) → pm_get lv 2 = some (.int (nJ n)) → pm_get lv 3 = some (.int (nJ i)) → Ends (pm_at tX9_laysBlocks) (pm_Rt pm_P (d + 3)) (23, lv, [], h, 0, 0) (fun h' r => r = none ∧ HH h' ∧ fr_g KM h0 h' ∧ ∀ k, k < 10 → gn h' 101 k = bk (gn h0 86) n k) := by
  induction j with
  | zero =>
    intro h i lv hj hh hfr hc L0 L1 L2 L3
    refine E_il rfl L3 ?_
    refine E_il rfl L2 ?_
    refine E_icT rfl (decide_eq_true ((nJ_le (by omega) (by omega)).mpr (by omega))) ?_
    exact E_ret rfl ⟨rfl, hh, hfr, fun k hk => by rw [hc k hk, show i = n by omega]⟩
  | succ j ih =>
    intro h i lv hj hh hfr hc L0 L1 L2 L3
    refine E_il rfl L3 ?_
    refine E_il rfl L2 ?_
    refine E_icF rfl (decide_eq_false (fun q => absurd ((nJ_le (by omega) (by omega)).mp q) (by omega))) ?_
    have ha9 : gn h0 86 (64 + 2 * i) ≤ 9 := gn_hi hh0 (bd_u rfl (by omega)) (by decide)
    have hb9 : gn h0 86 (64 + 2 * i + 1) ≤ 9 := gn_hi hh0 (bd_u rfl (by omega)) (by decide)
    refine E_al rfl L0 ?_
    refine E_al rfl L0 ?_
    refine E_gr rfl hh (q := 86) rfl ?_
    refine E_ci 2 rfl (by decide) ?_
    refine E_ci 8 rfl (by decide) ?_
    refine E_il rfl L1 ?_
    refine E_bin rfl (nJ_mul _ _) ?_
    refine E_il rfl L3 ?_
    refine E_bin rfl (nJ_add _ _) ?_
    refine E_bin rfl (nJ_mul _ _) ?_
    refine E_ial rfl hh rfl (by omega) (by decide) (show gi h 86 ((2 * ((8 * 4) + i))) = nJ ((gn h0 86 (64 + 2 * i))) from by rw [show (2 * ((8 * 4) + i)) = 64 + 2 * i by omega, fr_gi hfr (rg_no rfl _)]; exact gi_gn hh0 (bd_u rfl (by omega)) (by decide)) ?_
    refine E_al rfl L0 ?_
    refine E_gr rfl hh (q := 86) rfl ?_
    refine E_ci 2 rfl (by decide) ?_
    refine E_ci 8 rfl (by decide) ?_
    refine E_il rfl L1 ?_
    refine E_bin rfl (nJ_mul _ _) ?_
    refine E_il rfl L3 ?_
    refine E_bin rfl (nJ_add _ _) ?_
    refine E_bin rfl (nJ_mul _ _) ?_
    refine E_ci 1 rfl (by decide) ?_
    refine E_bin rfl (nJ_add _ _) ?_
    refine E_ial rfl hh rfl (by omega) (by decide) (show gi h 86 (((2 * ((8 * 4) + i)) + 1)) = nJ ((gn h0 86 (64 + 2 * i + 1))) from by rw [show ((2 * ((8 * 4) + i)) + 1) = 64 + 2 * i + 1 by omega, fr_gi hfr (rg_no rfl _)]; exact gi_gn hh0 (bd_u rfl (by omega)) (by decide)) ?_
    refine E_call rfl (Sp_le (by omega) (sp_joins0 (d := 0) hh (by omega) (by omega))) (chk77 hh rfl rfl (by show 0 ≤ 8; decide)) (fun h1 r1 => ?_)
    rintro ⟨e1, hh1, fq1, cq1⟩
    rw [e1]
    show Ends _ _ (60, lv, [], h1, 0, 0) _
    refine E_inc rfl L3 (nJ_inc _) (fun lv2 L2_3 kp2 => ?_)
    have L2_0 := kp2 0 _ (by decide) rfl L0
    have L2_1 := kp2 1 _ (by decide) rfl L1
    have L2_2 := kp2 2 _ (by decide) rfl L2
    refine E_goto rfl ?_
    refine ih lv2 (by omega) hh1 (fr_trans hfr fq1) (fun k hk => ?_) L2_0 L2_1 L2_2 L2_3
    rw [cq1 k hk]
    show (if 1 ≤ k ∧ gn h 101 k = max (gn h 101 (gn h0 86 (64 + 2 * i))) (gn h 101 (gn h0 86 (64 + 2 * i + 1))) then min (gn h 101 (gn h0 86 (64 + 2 * i))) (gn h 101 (gn h0 86 (64 + 2 * i + 1))) else gn h 101 k) = mg (bk (gn h0 86) i) (gn h0 86 (64 + 2 * i)) (gn h0 86 (64 + 2 * i + 1)) k
    rw [hc k hk, hc _ (by omega), hc _ (by omega)]
    rfl
theorem lb_one {h0 : pm_H} {d n : Nat} (hh0 : HH h0) (hn : n ≤ 8) (j : Nat) : ∀ {h : pm_H} {i : Nat} (lv : List (Nat × Value)), i + j = 10 → HH h → fr_g KM h0 h → (∀ k, k < i → gn h 101 k = k) → pm_get lv 0 = some (.ref 77) → pm_get lv 1 = some (.int (nJ 4)) → pm_get lv 2 = some (.int (nJ n)) → pm_get lv 3 = some (.int (nJ i)) → Ends (pm_at tX9_laysBlocks) (pm_Rt pm_P (d + 3)) (2, lv, [], h, 0, 0) (fun h' r => r = none ∧ HH h' ∧ fr_g KM h0 h' ∧ ∀ k, k < 10 → gn h' 101 k = bk (gn h0 86) n k) := by
  induction j with
  | zero =>
    intro h i lv hj hh hfr hc L0 L1 L2 L3
    refine E_il rfl L3 ?_
    refine E_ci 10 rfl (by decide) ?_
    refine E_icT rfl (decide_eq_true ((nJ_le (by omega) (by omega)).mpr (by omega))) ?_
    refine E_ci 0 rfl (by decide) ?_
    refine E_is rfl (fun lv1 L1_3 kp1 => ?_)
    have L1_0 := kp1 0 _ (by decide) rfl L0
    have L1_1 := kp1 1 _ (by decide) rfl L1
    have L1_2 := kp1 2 _ (by decide) rfl L2
    exact lb_two hh0 hn n (i := 0) lv1 (by omega) hh hfr (fun k hk => hc k (by omega)) L1_0 L1_1 L1_2 L1_3
  | succ j ih =>
    intro h i lv hj hh hfr hc L0 L1 L2 L3
    refine E_il rfl L3 ?_
    refine E_ci 10 rfl (by decide) ?_
    refine E_icF rfl (decide_eq_false (fun q => absurd ((nJ_le (by omega) (by omega)).mp q) (by omega))) ?_
    refine E_al rfl L0 ?_
    refine E_gr rfl hh (q := 101) rfl ?_
    refine E_il rfl L3 ?_
    refine E_il rfl L3 ?_
    refine E_ias rfl hh rfl (by omega) (by decide) ?_
    have hh1 : HH (pt h 101 i (nJ i)) := HH_ptn hh (bd_u rfl (by omega)) (by omega) (by omega) (by omega)
    refine E_inc rfl L3 (nJ_inc _) (fun lv2 L2_3 kp2 => ?_)
    have L2_0 := kp2 0 _ (by decide) rfl L0
    have L2_1 := kp2 1 _ (by decide) rfl L1
    have L2_2 := kp2 2 _ (by decide) rfl L2
    refine E_goto rfl ?_
    refine ih lv2 (by omega) hh1 (fr_ptr (l := 0) (u := 9) rfl (by omega) (by omega) hfr) (fun k hk => ?_) L2_0 L2_1 L2_2 L2_3
    by_cases e : k = i
    · rw [e, gn_ptn hh (bd_u rfl (by omega)) (by omega) (by omega) (by omega)]
    · rw [gn_ne (fun _ => e)]; exact hc k (by omega)
theorem sp_laysBlocks4 {h0 : pm_H} {d n : Nat} (hh : HH h0) (hn : n ≤ 8) : Sp (d + 4) 294 h0 [.ref 77, .int (nJ 4), .int (nJ n)] (fun h' r => r = none ∧ HH h' ∧ fr_g KM h0 h' ∧ ∀ k, k < 10 → gn h' 101 k = bk (gn h0 86) n k) := by
  refine Sp_of aiX9_laysBlocks rfl rfl rfl ?_
  refine E_ci 0 rfl (by decide) ?_
  refine E_is rfl (fun lv1 L1_3 kp1 => ?_)
  have L1_0 := kp1 0 _ (by decide) rfl (show pm_get (lv_args 0 [.ref 77, .int (nJ 4), .int (nJ n)]) 0 = _ from rfl)
  have L1_1 := kp1 1 _ (by decide) rfl (show pm_get (lv_args 0 [.ref 77, .int (nJ 4), .int (nJ n)]) 1 = _ from rfl)
  have L1_2 := kp1 2 _ (by decide) rfl (show pm_get (lv_args 0 [.ref 77, .int (nJ 4), .int (nJ n)]) 2 = _ from rfl)
  exact lb_one hh hn 10 (i := 0) lv1 (by omega) hh (fr_rf _ _) (fun k hk => absurd hk (Nat.not_lt_zero _)) L1_0 L1_1 L1_2 L1_3
theorem sp_mayJoin {h : pm_H} {d a b n : Nat} (hh : HH h) (a1 : 1 ≤ a) (a9 : a ≤ 9) (b1 : 1 ≤ b) (b9 : b ≤ 9) (n1 : 1 ≤ n) (n9 : n ≤ 9) : Sp (d + 2) 309 h [.ref 77, .int (nJ a), .int (nJ b), .int (nJ n)] (fun h' r => HH h' ∧ fr_g [] h h' ∧ (r = some (.int (nJ 0)) ∨ r = some (.int (nJ 1)) ∧ gn h 101 a ≠ gn h 101 b)) := by
  by_cases he : gn h 101 a = gn h 101 b
  · refine Sp_of aiX9_mayJoin rfl rfl rfl ?_
    refine E_al rfl (show pm_get (lv_args 0 [.ref 77, .int (nJ a), .int (nJ b), .int (nJ n)]) 0 = _ from rfl) ?_
    refine E_gr rfl hh (q := 101) rfl ?_
    refine E_il rfl (show pm_get (lv_args 0 [.ref 77, .int (nJ a), .int (nJ b), .int (nJ n)]) 1 = _ from rfl) ?_
    have b1 : gn h 101 a ≤ 9 := gn_hi hh (bd_u rfl (by omega)) (by decide)
    refine E_ial rfl hh rfl (by omega) (by decide) (gi_gn hh (bd_u rfl (by omega)) (by decide)) ?_
    refine E_al rfl (show pm_get (lv_args 0 [.ref 77, .int (nJ a), .int (nJ b), .int (nJ n)]) 0 = _ from rfl) ?_
    refine E_gr rfl hh (q := 101) rfl ?_
    refine E_il rfl (show pm_get (lv_args 0 [.ref 77, .int (nJ a), .int (nJ b), .int (nJ n)]) 2 = _ from rfl) ?_
    have b2 : gn h 101 b ≤ 9 := gn_hi hh (bd_u rfl (by omega)) (by decide)
    refine E_ial rfl hh rfl (by omega) (by decide) (gi_gn hh (bd_u rfl (by omega)) (by decide)) ?_
    refine E_icF rfl (decide_eq_false (fun q => q (by rw [he]))) ?_
    refine E_ci 0 rfl (by decide) ?_
    exact E_rtz rfl (.inl rfl) ⟨hh, fr_rf _ _, .inl rfl⟩
  · refine Sp_le (by omega) (Sp_mono ?_ (Sp_sum (as := [.ref 77, .int (nJ a), .int (nJ b), .int (nJ n)]) q563 hh ⟨rfl, nJ_in (by omega) (by omega), nJ_in (by omega) (by omega), nJ_in (by omega) (by omega), trivial⟩ (fun _ hq => absurd hq List.not_mem_nil) (fun _ hq => absurd hq List.not_mem_nil)))
    rintro h' r ⟨q1, q2, C, hC, -, -, -, rv⟩
    refine ⟨q1, q2, ?_⟩
    have hC' : C ∈ [([cR 77, cI 1 9, cI 1 9, cI 1 9], [], [], some (.inl (cI 0 0))), ([cR 77, cI 1 9, cI 1 9, cI 1 9], [], [], some (.inl (cI 1 1)))] := hC
    rcases List.mem_cons.mp hC' with e | e
    · subst e
      cases r with
      | none => exact rv.elim
      | some v => cases v with
        | int x => exact .inl (congrArg some (congrArg Value.int (Int32.toInt_inj.mp (show x.toInt = 0 from Int.le_antisymm rv.2 rv.1))))
        | _ => exact rv.elim
    · have e := List.mem_singleton.mp e
      subst e
      cases r with
      | none => exact rv.elim
      | some v => cases v with
        | int x => exact .inr ⟨congrArg some (congrArg Value.int (Int32.toInt_inj.mp (show x.toInt = 1 from Int.le_antisymm rv.2 rv.1))), he⟩
        | _ => exact rv.elim
theorem bd_85o {k : Nat} (hk : k < 80) (e : k % 2 = 1) : bd 85 k = some (0, 99) := bd_pat (p := [(0, 8), (0, 99)]) rfl hk (by show [(0, 8), (0, 99)][k % 2]? = _; rw [e]; rfl)
noncomputable def CX : List Rng := [(77, 7, 13), (85, 64, 79), (84, 27, 27)]
theorem sp_carLine {h0 : pm_H} {d : Nat} (hh0 : HH h0) (hr1 : gn h0 77 9 ≤ gn h0 77 7) (hr2 : gn h0 77 7 ≤ gn h0 77 6) (hr3 : gn h0 77 8 = 0 ∨ gn h0 77 9 < gn h0 77 7) (hc : gn h0 84 27 < gn h0 84 24) (ht : ∀ c, c < gn h0 84 27 → 1 ≤ gn h0 85 (64 + 2 * c)) : Sp (d + 8) 223 h0 [.ref 77] (fun h' r => r = none ∧ RR h' ∧ fr_g CX h0 h' ∧ gn h0 77 9 ≤ gn h' 77 9 ∧ gn h' 84 27 = gn h0 84 27 + 1 ∧ ∀ c, c < gn h0 84 27 + 1 → 1 ≤ gn h' 85 (64 + 2 * c)) := by
  refine Sp_of aiX9_carLine rfl rfl rfl ?_
  have L0 : pm_get (lv_args 0 [.ref 77]) 0 = some (.ref 77) := rfl
  generalize lv_args 0 [.ref 77] = lv at L0 ⊢
  have h5 := b500 hh0
  refine E_ci 2 rfl (by decide) ?_
  refine E_ci 32 rfl (by decide) ?_
  refine E_al rfl L0 ?_
  refine E_ci 3 rfl (by decide) ?_
  refine E_call rfl (Sp_le (by omega) (sp_hasRead (d := 0) hh0 (by omega) rfl (by decide))) (chk77 hh0 rfl rfl (by show 2 ≤ 8; decide)) (fun h1 r1 => ?_)
  rintro ⟨e1, f1⟩
  rw [e1, f1]
  have b1 : gn h0 84 27 ≤ 8 := gn_hi hh0 rfl (by decide)
  show Ends _ _ (8, lv, [.int (nJ (gn h0 84 27)), .int (nJ 32), .int (nJ 2)], h0, 0, 0) _
  refine E_bin rfl (nJ_add _ _) ?_
  refine E_bin rfl (nJ_mul _ _) ?_
  refine E_is rfl (fun lv2 L2_1 kp2 => ?_)
  have L2_0 := kp2 0 _ (by decide) rfl L0
  refine E_al rfl L2_0 ?_
  refine E_gr rfl hh0 (q := 85) rfl ?_
  refine E_il rfl L2_1 ?_
  refine E_al rfl L2_0 ?_
  refine E_c rfl ?_
  refine E_ci 1 rfl (by decide) ?_
  refine E_al rfl L2_0 ?_
  refine E_ci 0 rfl (by decide) ?_
  refine E_call rfl (Sp_le (by omega) (sp_hasRead (d := 0) hh0 (by omega) rfl (by decide))) (chk77 hh0 rfl rfl (by show 6 ≤ 8; decide)) (fun h3 r3 => ?_)
  rintro ⟨e3, f3⟩
  rw [e3, f3]
  have b3 : gn h0 84 24 ≤ 8 := gn_hi hh0 rfl (by decide)
  show Ends _ _ (26, lv2, [.int (nJ (gn h0 84 24)), .int (nJ 1), .long (12253591), .ref 77, .int (nJ (2 * (32 + (gn h0 84 27)))), .ref 85], h0, 0, 0) _
  refine E_call rfl (Sp_le (by omega) (sp_number_ (d := 0) hh0 (by omega) (by omega) (by omega) (by omega) (by omega))) (chk77 hh0 rfl rfl (by show 2 ≤ 8; decide)) (fun h4 r4 => ?_)
  rintro ⟨⟨hh4, ra4, rb4, rc4⟩, fq4, mo4, v4, va4, vb4, f4, vc4⟩
  rw [f4]
  have fr4 : fr_g CX h0 h4 := fr_trans (fr_rf CX h0) (fr_wk rfl fq4)
  have t4_0 : gn h4 77 6 = gn h0 77 6 := fr_gn fq4 rfl
  have t4_5 : gn h4 84 24 = gn h0 84 24 := fr_gn fq4 rfl
  have t4_6 : gn h4 84 27 = gn h0 84 27 := fr_gn fq4 rfl
  have t4_7 : gn h4 84 28 = gn h0 84 28 := fr_gn fq4 rfl
  have t4_8 : gn h4 84 29 = gn h0 84 29 := fr_gn fq4 rfl
  have u4 : ∀ k, gn h4 85 k = gn h0 85 k := fun k => fr_gn fq4 (rg_no rfl _)
  show Ends _ _ (29, lv2, [.int (nJ v4), .int (nJ (2 * (32 + (gn h0 84 27)))), .ref 85], h4, 0, 0) _
  refine E_ias rfl hh4 rfl (by omega) (by decide) ?_
  have hh5 : HH (pt h4 85 ((2 * (32 + (gn h0 84 27)))) (nJ v4)) := HH_ptn hh4 (bd_85 (by omega) (by omega)) (by omega) (by omega) (by omega)
  have fr5 : fr_g CX h0 (pt h4 85 ((2 * (32 + (gn h0 84 27)))) (nJ v4)) := fr_ptr (l := 64) (u := 79) rfl (by omega) (by omega) fr4
  have t5_0 : gn (pt h4 85 ((2 * (32 + (gn h0 84 27)))) (nJ v4)) 77 6 = gn h4 77 6 := gn_ne (by omega)
  have t5_1 : gn (pt h4 85 ((2 * (32 + (gn h0 84 27)))) (nJ v4)) 77 7 = gn h4 77 7 := gn_ne (by omega)
  have t5_2 : gn (pt h4 85 ((2 * (32 + (gn h0 84 27)))) (nJ v4)) 77 8 = gn h4 77 8 := gn_ne (by omega)
  have t5_3 : gn (pt h4 85 ((2 * (32 + (gn h0 84 27)))) (nJ v4)) 77 9 = gn h4 77 9 := gn_ne (by omega)
  have t5_4 : gn (pt h4 85 ((2 * (32 + (gn h0 84 27)))) (nJ v4)) 77 12 = gn h4 77 12 := gn_ne (by omega)
  have t5_5 : gn (pt h4 85 ((2 * (32 + (gn h0 84 27)))) (nJ v4)) 84 24 = gn h4 84 24 := gn_ne (by omega)
  have t5_6 : gn (pt h4 85 ((2 * (32 + (gn h0 84 27)))) (nJ v4)) 84 27 = gn h4 84 27 := gn_ne (by omega)
  have t5_7 : gn (pt h4 85 ((2 * (32 + (gn h0 84 27)))) (nJ v4)) 84 28 = gn h4 84 28 := gn_ne (by omega)
  have t5_8 : gn (pt h4 85 ((2 * (32 + (gn h0 84 27)))) (nJ v4)) 84 29 = gn h4 84 29 := gn_ne (by omega)
  generalize hz5 : (pt h4 85 ((2 * (32 + (gn h0 84 27)))) (nJ v4)) = g5 at hh5 fr5 t5_0 t5_1 t5_2 t5_3 t5_4 t5_5 t5_6 t5_7 t5_8 ⊢
  refine E_al rfl L2_0 ?_
  refine E_gr rfl hh5 (q := 85) rfl ?_
  refine E_il rfl L2_1 ?_
  refine E_ci 1 rfl (by decide) ?_
  refine E_bin rfl (nJ_add _ _) ?_
  refine E_al rfl L2_0 ?_
  refine E_c rfl ?_
  refine E_ci 0 rfl (by decide) ?_
  refine E_ci 99 rfl (by decide) ?_
  refine E_call rfl (Sp_le (by omega) (sp_number_ (d := 0) hh5 (by omega) (by omega) (by omega) (by omega) (by omega))) (chk77 hh5 rfl rfl (by show 2 ≤ 8; decide)) (fun h6 r6 => ?_)
  rintro ⟨⟨hh6, ra6, rb6, rc6⟩, fq6, mo6, v6, va6, vb6, f6, vc6⟩
  rw [f6]
  have fr6 : fr_g CX h0 h6 := fr_trans fr5 (fr_wk rfl fq6)
  have t6_0 : gn h6 77 6 = gn g5 77 6 := fr_gn fq6 rfl
  have t6_5 : gn h6 84 24 = gn g5 84 24 := fr_gn fq6 rfl
  have t6_6 : gn h6 84 27 = gn g5 84 27 := fr_gn fq6 rfl
  have t6_7 : gn h6 84 28 = gn g5 84 28 := fr_gn fq6 rfl
  have t6_8 : gn h6 84 29 = gn g5 84 29 := fr_gn fq6 rfl
  have u6 : ∀ k, gn h6 85 k = gn g5 85 k := fun k => fr_gn fq6 (rg_no rfl _)
  show Ends _ _ (47, lv2, [.int (nJ v6), .int (nJ ((2 * (32 + (gn h0 84 27))) + 1)), .ref 85], h6, 0, 0) _
  refine E_ias rfl hh6 rfl (by omega) (by decide) ?_
  have hh7 : HH (pt h6 85 (((2 * (32 + (gn h0 84 27))) + 1)) (nJ v6)) := HH_ptn hh6 (bd_85o (by omega) (by omega)) (by omega) (by omega) (by omega)
  have fr7 : fr_g CX h0 (pt h6 85 (((2 * (32 + (gn h0 84 27))) + 1)) (nJ v6)) := fr_ptr (l := 64) (u := 79) rfl (by omega) (by omega) fr6
  have t7_0 : gn (pt h6 85 (((2 * (32 + (gn h0 84 27))) + 1)) (nJ v6)) 77 6 = gn h6 77 6 := gn_ne (by omega)
  have t7_1 : gn (pt h6 85 (((2 * (32 + (gn h0 84 27))) + 1)) (nJ v6)) 77 7 = gn h6 77 7 := gn_ne (by omega)
  have t7_2 : gn (pt h6 85 (((2 * (32 + (gn h0 84 27))) + 1)) (nJ v6)) 77 8 = gn h6 77 8 := gn_ne (by omega)
  have t7_3 : gn (pt h6 85 (((2 * (32 + (gn h0 84 27))) + 1)) (nJ v6)) 77 9 = gn h6 77 9 := gn_ne (by omega)
  have t7_4 : gn (pt h6 85 (((2 * (32 + (gn h0 84 27))) + 1)) (nJ v6)) 77 12 = gn h6 77 12 := gn_ne (by omega)
  have t7_5 : gn (pt h6 85 (((2 * (32 + (gn h0 84 27))) + 1)) (nJ v6)) 84 24 = gn h6 84 24 := gn_ne (by omega)
  have t7_6 : gn (pt h6 85 (((2 * (32 + (gn h0 84 27))) + 1)) (nJ v6)) 84 27 = gn h6 84 27 := gn_ne (by omega)
  have t7_7 : gn (pt h6 85 (((2 * (32 + (gn h0 84 27))) + 1)) (nJ v6)) 84 28 = gn h6 84 28 := gn_ne (by omega)
  have t7_8 : gn (pt h6 85 (((2 * (32 + (gn h0 84 27))) + 1)) (nJ v6)) 84 29 = gn h6 84 29 := gn_ne (by omega)
  generalize hz7 : (pt h6 85 (((2 * (32 + (gn h0 84 27))) + 1)) (nJ v6)) = g7 at hh7 fr7 t7_0 t7_1 t7_2 t7_3 t7_4 t7_5 t7_6 t7_7 t7_8 ⊢
  refine E_al rfl L2_0 ?_
  refine E_ci 3 rfl (by decide) ?_
  refine E_al rfl L2_0 ?_
  refine E_ci 3 rfl (by decide) ?_
  refine E_call rfl (Sp_le (by omega) (sp_hasRead (d := 0) hh7 (by omega) rfl (by decide))) (chk77 hh7 rfl rfl (by show 2 ≤ 8; decide)) (fun h8 r8 => ?_)
  rintro ⟨e8, f8⟩
  rw [e8, f8]
  have b8 : gn g7 84 27 ≤ 8 := gn_hi hh7 rfl (by decide)
  show Ends _ _ (55, lv2, [.int (nJ (gn g7 84 27)), .int (nJ 3), .ref 77], g7, 0, 0) _
  refine E_ci 1 rfl (by decide) ?_
  refine E_bin rfl (nJ_add _ _) ?_
  refine E_call rfl (Sp_le (by omega) (sp_tells (d := 0) hh7 (by omega))) (chk77 hh7 rfl rfl (by show 0 ≤ 8; decide)) (fun h9 r9 => ?_)
  rintro ⟨e9, f9⟩
  have hh9 : HH (pt g7 84 27 (nJ (((gn g7 84 27) + 1)))) := HH_ptn hh7 rfl (by omega) (by omega) (by omega)
  have fr9 : fr_g CX h0 (pt g7 84 27 (nJ (((gn g7 84 27) + 1)))) := fr_ptr (l := 27) (u := 27) rfl (by omega) (by omega) fr7
  have t9_0 : gn (pt g7 84 27 (nJ (((gn g7 84 27) + 1)))) 77 6 = gn g7 77 6 := gn_ne (by omega)
  have t9_1 : gn (pt g7 84 27 (nJ (((gn g7 84 27) + 1)))) 77 7 = gn g7 77 7 := gn_ne (by omega)
  have t9_2 : gn (pt g7 84 27 (nJ (((gn g7 84 27) + 1)))) 77 8 = gn g7 77 8 := gn_ne (by omega)
  have t9_3 : gn (pt g7 84 27 (nJ (((gn g7 84 27) + 1)))) 77 9 = gn g7 77 9 := gn_ne (by omega)
  have t9_4 : gn (pt g7 84 27 (nJ (((gn g7 84 27) + 1)))) 77 12 = gn g7 77 12 := gn_ne (by omega)
  have t9_5 : gn (pt g7 84 27 (nJ (((gn g7 84 27) + 1)))) 84 24 = gn g7 84 24 := gn_ne (by omega)
  have t9_6 : gn (pt g7 84 27 (nJ (((gn g7 84 27) + 1)))) 84 27 = ((gn g7 84 27) + 1) := gn_ptn hh7 rfl (by omega) (by omega) (by omega)
  have t9_7 : gn (pt g7 84 27 (nJ (((gn g7 84 27) + 1)))) 84 28 = gn g7 84 28 := gn_ne (by omega)
  have t9_8 : gn (pt g7 84 27 (nJ (((gn g7 84 27) + 1)))) 84 29 = gn g7 84 29 := gn_ne (by omega)
  have u9 : ∀ k, gn (pt g7 84 27 (nJ (((gn g7 84 27) + 1)))) 85 k = gn g7 85 k := fun k => gn_ne (by omega)
  have y9 : ∀ k, gn (pt g7 84 27 (nJ (((gn g7 84 27) + 1)))) 86 k = gn g7 86 k := fun k => gn_ne (by omega)
  rw [e9, f9]
  show Ends _ _ (60, lv2, [], (pt g7 84 27 (nJ (((gn g7 84 27) + 1)))), 0, 0) _
  generalize hz9 : (pt g7 84 27 (nJ (((gn g7 84 27) + 1)))) = g9 at hh9 fr9 t9_0 t9_1 t9_2 t9_3 t9_4 t9_5 t9_6 t9_7 t9_8 u9 y9 ⊢
  refine E_ret rfl ⟨rfl, ⟨hh9, by omega, by omega, by omega⟩, fr9, by omega, by omega, fun c hc => ?_⟩
  rw [u9, ← hz7, gn_ne (by omega), u6]
  by_cases e : c = gn h0 84 27
  · rw [e, ← hz5, show 64 + 2 * gn h0 84 27 = 2 * (32 + gn h0 84 27) by omega, gn_ptn hh4 (bd_85 (by omega) (by omega)) (by omega) (by omega) (by omega)]; exact va4
  · rw [← hz5, gn_ne (by omega), u4]; exact ht c (by omega)
end
section
/-! by hand: the line of a join, a line (written by gen_t17.py) -/
end
