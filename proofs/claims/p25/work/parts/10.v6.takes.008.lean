section
theorem tkq_43_15 : sum_g w0 (pm_Rt pm_P 1) (54, [cR 43, cR 15], [], [41, 104], TkF_43_15, [([cR 43, cR 15], [], [104], none)]) := by
  refine tk_sum (TA := 51) (GA := 50) (TB := 23) (GB := 22) (fB := 41) (fun hh => Sp_mono ?_ (sp_take_43_15 (d := 0) hh)) (fun i hi => bd_u rfl (by omega)) (fun i hi => bd_u rfl (by omega)) (fun i hi => bd_u rfl (by omega)) (fun i hi => bd_u rfl (by omega)) (fun _ => rfl) (fun _ => rfl) (List.mem_cons_self)
  rintro h' r ⟨e1, e2, e3, -, -, e4⟩
  exact ⟨e1, e2, e3, fun i hi => ⟨(e4 i hi).2.1, (e4 i hi).2.2⟩⟩
theorem tkq_34_15 : sum_g w0 (pm_Rt pm_P 1) (54, [cR 34, cR 15], [], [41, 83], TkF_34_15, [([cR 34, cR 15], [], [83], none)]) := by
  refine tk_sum (TA := 42) (GA := 41) (TB := 23) (GB := 22) (fB := 41) (fun hh => Sp_mono ?_ (sp_take_34_15 (d := 0) hh)) (fun i hi => bd_u rfl (by omega)) (fun i hi => bd_u rfl (by omega)) (fun i hi => bd_u rfl (by omega)) (fun i hi => bd_u rfl (by omega)) (fun _ => rfl) (fun _ => rfl) (List.mem_cons_self)
  rintro h' r ⟨e1, e2, e3, -, -, e4⟩
  exact ⟨e1, e2, e3, fun i hi => ⟨(e4 i hi).2.1, (e4 i hi).2.2⟩⟩
theorem tkq_25_15 : sum_g w0 (pm_Rt pm_P 1) (54, [cR 25, cR 15], [], [41, 62], TkF_25_15, [([cR 25, cR 15], [], [62], none)]) := by
  refine tk_sum (TA := 33) (GA := 32) (TB := 23) (GB := 22) (fB := 41) (fun hh => Sp_mono ?_ (sp_take_25_15 (d := 0) hh)) (fun i hi => bd_u rfl (by omega)) (fun i hi => bd_u rfl (by omega)) (fun i hi => bd_u rfl (by omega)) (fun i hi => bd_u rfl (by omega)) (fun _ => rfl) (fun _ => rfl) (List.mem_cons_self)
  rintro h' r ⟨e1, e2, e3, -, -, e4⟩
  exact ⟨e1, e2, e3, fun i hi => ⟨(e4 i hi).2.1, (e4 i hi).2.2⟩⟩
theorem tkq_15_43 : sum_g w0 (pm_Rt pm_P 1) (54, [cR 15, cR 43], [], [41, 104], TkF_15_43, [([cR 15, cR 43], [], [41], none)]) := by
  refine tk_sum (TA := 23) (GA := 22) (TB := 51) (GB := 50) (fB := 104) (fun hh => Sp_mono ?_ (sp_take_15_43 (d := 0) hh)) (fun i hi => bd_u rfl (by omega)) (fun i hi => bd_u rfl (by omega)) (fun i hi => bd_u rfl (by omega)) (fun i hi => bd_u rfl (by omega)) (fun _ => rfl) (fun _ => rfl) (List.mem_cons_of_mem _ List.mem_cons_self)
  rintro h' r ⟨e1, e2, e3, -, -, e4⟩
  exact ⟨e1, e2, e3, fun i hi => ⟨(e4 i hi).2.1, (e4 i hi).2.2⟩⟩
theorem tkq_15_34 : sum_g w0 (pm_Rt pm_P 1) (54, [cR 15, cR 34], [], [41, 83], TkF_15_34, [([cR 15, cR 34], [], [41], none)]) := by
  refine tk_sum (TA := 23) (GA := 22) (TB := 42) (GB := 41) (fB := 83) (fun hh => Sp_mono ?_ (sp_take_15_34 (d := 0) hh)) (fun i hi => bd_u rfl (by omega)) (fun i hi => bd_u rfl (by omega)) (fun i hi => bd_u rfl (by omega)) (fun i hi => bd_u rfl (by omega)) (fun _ => rfl) (fun _ => rfl) (List.mem_cons_of_mem _ List.mem_cons_self)
  rintro h' r ⟨e1, e2, e3, -, -, e4⟩
  exact ⟨e1, e2, e3, fun i hi => ⟨(e4 i hi).2.1, (e4 i hi).2.2⟩⟩
theorem tkq_15_25 : sum_g w0 (pm_Rt pm_P 1) (54, [cR 15, cR 25], [], [41, 62], TkF_15_25, [([cR 15, cR 25], [], [41], none)]) := by
  refine tk_sum (TA := 23) (GA := 22) (TB := 33) (GB := 32) (fB := 62) (fun hh => Sp_mono ?_ (sp_take_15_25 (d := 0) hh)) (fun i hi => bd_u rfl (by omega)) (fun i hi => bd_u rfl (by omega)) (fun i hi => bd_u rfl (by omega)) (fun i hi => bd_u rfl (by omega)) (fun _ => rfl) (fun _ => rfl) (List.mem_cons_of_mem _ List.mem_cons_self)
  rintro h' r ⟨e1, e2, e3, -, -, e4⟩
  exact ⟨e1, e2, e3, fun i hi => ⟨(e4 i hi).2.1, (e4 i hi).2.2⟩⟩
theorem tkq_15_4 : sum_g w0 (pm_Rt pm_P 1) (54, [cR 15, cR 4], [], [20, 41], TkF_15_4, [([cR 15, cR 4], [], [41], none)]) := by
  refine tk_sum (TA := 23) (GA := 22) (TB := 12) (GB := 11) (fB := 20) (fun hh => Sp_mono ?_ (sp_take_15_4 (d := 0) hh)) (fun i hi => bd_u rfl (by omega)) (fun i hi => bd_u rfl (by omega)) (fun i hi => bd_u rfl (by omega)) (fun i hi => bd_u rfl (by omega)) (fun _ => rfl) (fun _ => rfl) (List.mem_cons_self)
  rintro h' r ⟨e1, e2, e3, -, -, e4⟩
  exact ⟨e1, e2, e3, fun i hi => ⟨(e4 i hi).2.1, (e4 i hi).2.2⟩⟩
end
section
/-! by hand: whyNot of the reference (its summary S643 in place of the executor's check) -/
theorem sp_isCarL {h : pm_H} {d : Nat} {y : Int64} (hh : HH h) : Sp (d + 2) 267 h [.ref 77, .long y] (fun h' r => h' = h ∧ r = some (.int (zb (0 ≤ y.toInt ∧ y.toInt ≤ (gn h 84 3 : Int) - 1)))) := by
  refine Sp_of aiX9_isCar rfl rfl rfl ?_
  refine E_ll rfl (x := y) rfl ?_
  refine E_c rfl ?_
  refine E_al rfl (x := 77) rfl ?_
  refine E_call rfl (sp_cars hh) (chk77 hh rfl rfl (by show 4 ≤ 8; decide)) (fun h1 r1 => ?_)
  rintro ⟨e1, f1, c1⟩
  rw [e1, f1]
  refine E_i2l rfl ?_
  refine E_c rfl ?_
  refine E_lbin rfl ?_
  refine E_call rfl (sp_in (x := y) rfl (b := 0) rfl (c := (gn h 84 3 : Int) - 1) (i2l_sub1 (by omega))) (chkS rfl (by show 0 ≤ 8; decide)) (fun h2 r2 => ?_)
  rintro ⟨e2, f2⟩
  rw [e2, f2]
  exact E_rtz rfl (zb_01 _) ⟨rfl, rfl⟩
theorem nJ_mulE (a b : Nat) : nJ a * nJ b = nJ (a * b) := by
  unfold nJ
  rw [← Int32.ofInt_mul]
  rfl
noncomputable def WnQ (h : pm_H) (x : Int32) (h' : pm_H) (r : Option Value) : Prop := h' = h ∧ ((∃ y : Int32, r = some (.int y) ∧ -6 ≤ y.toInt ∧ y.toInt ≤ -2) ∨ ∃ s, s < 4 ∧ x = nJ s ∧ r = some (.int 0) ∧ 0 ≤ (gi h 78 s).toInt ∧ 1 ≤ (gi h 83 0).toInt ∧ LDf 80 (60 * s) 2 0 7 79 s h)
section WN
variable {h : pm_H} {d : Nat} {x : Int32}
theorem wn_lp {s : Nat} (hh : HH h) (hs : s < 4) (hx : x = nJ s) (hf : 0 ≤ (gi h 78 s).toInt) (hq : 1 ≤ (gi h 83 0).toInt) (ev : gn h 79 s % 2 = 0) (j : Nat) : ∀ {k : Nat} (lv : List (Nat × Value)), gn h 79 s ≤ 2 * k + j → k ≤ 30 → (∀ m, m < k → 0 ≤ (gl h 80 (60 * s + 2 * m)).toInt ∧ (gl h 80 (60 * s + 2 * m)).toInt ≤ 7) → pm_get lv 0 = some (.ref 77) → pm_get lv 1 = some (.int (nJ s)) → pm_get lv 3 = some (.int (nJ (2 * k))) → Ends (pm_at tX9_whyNot) (pm_Rt pm_P (d + 2)) (50, lv, [], h, 0, 0) (WnQ h x) := by
  have b79 : bd 79 s = some (0, 60) := bd_u rfl (by omega)
  have hn : gn h 79 s ≤ 60 := gn_hi hh b79 (by decide)
  have n8 : gn h 84 3 ≤ 8 := gn_hi hh rfl (by decide)
  have no : ∀ (lv : List (Nat × Value)), Ends (pm_at tX9_whyNot) (pm_Rt pm_P (d + 2)) (103, lv, [], h, 0, 0) (WnQ h x) := by
    intro lv
    refine E_c rfl ?_
    exact E_rti rfl ⟨rfl, .inl ⟨_, rfl, by decide, by decide⟩⟩
  have yes : ∀ {k : Nat} (lv : List (Nat × Value)), gn h 79 s ≤ 2 * k → (∀ m, m < k → 0 ≤ (gl h 80 (60 * s + 2 * m)).toInt ∧ (gl h 80 (60 * s + 2 * m)).toInt ≤ 7) → Ends (pm_at tX9_whyNot) (pm_Rt pm_P (d + 2)) (112, lv, [], h, 0, 0) (WnQ h x) := by
    intro k lv hk hi
    refine E_ci 0 rfl (by decide) ?_
    refine E_rti rfl ⟨rfl, .inr ⟨s, hs, hx, rfl, hf, hq, fun n m h1 h2 => ?_⟩⟩
    rw [(ld_gi hh b79).1] at h1
    cases h1
    have h3 : (gi h 79 s).toInt = gn h 79 s := by rw [gi_gn hh b79 (by decide), nJ_toInt (by omega), gn_of (gi_gn hh b79 (by decide)) (by omega)]
    exact ⟨_, ld_gl hh (len := 240) rfl, (hi m (by omega)).1, (hi m (by omega)).2⟩
  induction j with
  | zero =>
    intro k lv hj hk hi L0 L1 L3
    refine E_il rfl L3 ?_
    refine E_al rfl L0 ?_
    refine E_gr rfl hh (q := 79) rfl ?_
    refine E_il rfl L1 ?_
    refine E_ial rfl hh rfl (by omega) (by decide) (gi_gn hh b79 (by decide)) ?_
    refine E_icT rfl (decide_eq_true ((nJ_le (by omega) (by omega)).mpr (by omega))) ?_
    exact yes lv (by omega) hi
  | succ j ih =>
    intro k lv hj hk hi L0 L1 L3
    refine E_il rfl L3 ?_
    refine E_al rfl L0 ?_
    refine E_gr rfl hh (q := 79) rfl ?_
    refine E_il rfl L1 ?_
    refine E_ial rfl hh rfl (by omega) (by decide) (gi_gn hh b79 (by decide)) ?_
    by_cases b0 : gn h 79 s ≤ 2 * k
    · refine E_icT rfl (decide_eq_true ((nJ_le (by omega) (by omega)).mpr b0)) ?_
      exact yes lv b0 hi
    refine E_icF rfl (decide_eq_false (fun q => b0 ((nJ_le (by omega) (by omega)).mp q))) ?_
    refine E_ci 60 rfl (by decide) ?_
    refine E_il rfl L1 ?_
    refine E_bin rfl (nJ_mulE _ _) ?_
    refine E_il rfl L3 ?_
    refine E_bin rfl (nJ_add _ _) ?_
    refine E_is rfl (fun lv1 M4 kp => ?_)
    have M0 := kp 0 _ (by decide) rfl L0
    have M1 := kp 1 _ (by decide) rfl L1
    have M3 := kp 3 _ (by decide) rfl L3
    refine E_al rfl M0 ?_
    refine E_al rfl M0 ?_
    refine E_gr rfl hh (q := 80) rfl ?_
    refine E_il rfl M4 ?_
    refine E_lal (len := 240) rfl hh rfl (by omega) (by decide) ?_
    refine E_call rfl (sp_isCarL (d := d) hh) (chk77 hh rfl rfl (by show 0 ≤ 8; decide)) (fun h1 r1 => ?_)
    rintro ⟨e1, f1⟩
    rw [e1, f1]
    by_cases b1 : 0 ≤ (gl h 80 (60 * s + 2 * k)).toInt ∧ (gl h 80 (60 * s + 2 * k)).toInt ≤ (gn h 84 3 : Int) - 1
    · refine E_ifF rfl (by rw [zb_T b1]; rfl) ?_
      refine E_al rfl M0 ?_
      refine E_gr rfl hh (q := 80) rfl ?_
      refine E_il rfl M4 ?_
      refine E_ci 1 rfl (by decide) ?_
      refine E_bin rfl (nJ_add _ _) ?_
      refine E_lal (len := 240) rfl hh rfl (by omega) (by decide) ?_
      refine E_c rfl ?_
      refine E_al rfl M0 ?_
      refine E_call rfl (Sp_le (by omega) (sp_places (d := d) hh)) (chk77 hh rfl rfl (by show 4 ≤ 8; decide)) (fun h2 r2 => ?_)
      rintro ⟨e2, f2, c2⟩
      rw [e2, f2]
      refine E_i2l rfl ?_
      refine E_call rfl (Sp_le (by omega) (sp_in (d := d) rfl (b := 0) rfl (c := (gn h 84 0 : Int)) (i2l_nJ (by omega)))) (chkS rfl (by show 0 ≤ 8; decide)) (fun h3 r3 => ?_)
      rintro ⟨e3, f3⟩
      rw [e3, f3]
      by_cases b2 : 0 ≤ (gl h 80 (60 * s + 2 * k + 1)).toInt ∧ (gl h 80 (60 * s + 2 * k + 1)).toInt ≤ (gn h 84 0 : Int)
      · refine E_ifT rfl (by rw [zb_T b2]; rfl) ?_
        refine E_inc rfl M3 (show nJ (2 * k) + 2 = nJ (2 * (k + 1)) from nJ_add (2 * k) 2) (fun lv2 N3 kp2 => ?_)
        refine E_goto rfl ?_
        refine ih lv2 (by omega) (by omega) (fun m hm => ?_) (kp2 0 _ (by decide) rfl M0) (kp2 1 _ (by decide) rfl M1) N3
        by_cases e : m = k
        · rw [e]; exact ⟨b1.1, by omega⟩
        · exact hi m (by omega)
      · refine E_ifF rfl (by rw [zb_F b2]; rfl) ?_
        exact no lv1
    · refine E_ifT rfl (by rw [zb_F b1]; rfl) ?_
      exact no lv1
theorem par_tab : ∀ m : Fin 61, (nJ m.val - nJ m.val / 2 * 2 = 0) ↔ m.val % 2 = 0 := by decide +kernel
theorem sp_whyNotX (hh : HH h) : Sp (d + 3) 372 h [.ref 77, .int x, .int (nJ 1)] (WnQ h x) := by
  refine Sp_of aiX9_whyNot rfl rfl rfl ?_
  have L0 : pm_get (lv_args 0 [.ref 77, .int x, .int (nJ 1)]) 0 = some (.ref 77) := rfl
  have L1 : pm_get (lv_args 0 [.ref 77, .int x, .int (nJ 1)]) 1 = some (.int x) := rfl
  have L2 : pm_get (lv_args 0 [.ref 77, .int x, .int (nJ 1)]) 2 = some (.int (nJ 1)) := rfl
  generalize lv_args 0 [.ref 77, .int x, .int (nJ 1)] = lv at L0 L1 L2 ⊢
  have no : Ends (pm_at tX9_whyNot) (pm_Rt pm_P (d + 2)) (18, lv, [], h, 0, 0) (WnQ h x) := by
    refine E_c rfl ?_
    exact E_rti rfl ⟨rfl, .inl ⟨_, rfl, by decide, by decide⟩⟩
  refine E_il rfl L1 ?_
  refine E_call rfl (sp_isSlot (d := d)) (chkS rfl (by show 0 ≤ 8; decide)) (fun h1 r1 => ?_)
  rintro ⟨e1, f1⟩
  rw [e1, f1]
  by_cases b1 : 0 ≤ x.toInt ∧ x.toInt ≤ 3
  · refine E_ifF rfl (by rw [zb_T b1]; rfl) ?_
    obtain ⟨s, hs, rfl⟩ : ∃ s, s < 4 ∧ x = nJ s := ⟨x.toInt.toNat, by omega, nJ_of b1.1⟩
    refine E_al rfl L0 ?_
    refine E_call rfl (Sp_le (by omega) (sp_isStreet (d := d) hh)) (chk77 hh rfl rfl (by show 0 ≤ 8; decide)) (fun h2 r2 => ?_)
    rintro ⟨e2, f2⟩
    rw [e2, f2]
    by_cases b2 : 0 < (gi h 83 0).toInt
    · refine E_ifF rfl (by rw [zb_T b2]; rfl) ?_
      refine E_il rfl L2 ?_
      refine E_ifT rfl (by decide) ?_
      refine E_al rfl L0 ?_
      refine E_gr rfl hh (q := 78) rfl ?_
      refine E_il rfl L1 ?_
      refine E_ial rfl hh rfl (by omega) (by decide) rfl ?_
      refine E_c rfl ?_
      have b78 : bd 78 s = some (-1, 3) := bd_u rfl (by omega)
      have r78 := (ld_gi hh b78).2
      dsimp only at r78
      have z1 : (-1 : Int32).toInt = -1 := rfl
      by_cases b3 : gi h 78 s = -1
      · refine E_icF rfl (decide_eq_false (fun q => q b3)) ?_
        refine E_c rfl ?_
        exact E_rti rfl ⟨rfl, .inl ⟨_, rfl, by decide, by decide⟩⟩
      · refine E_icT rfl (decide_eq_true b3) ?_
        have f0 : 0 ≤ (gi h 78 s).toInt := by
          have : ¬ (gi h 78 s).toInt = -1 := fun q => b3 (Int32.toInt_inj.mp (by rw [q, z1]))
          omega
        have b79 : bd 79 s = some (0, 60) := bd_u rfl (by omega)
        have hn : gn h 79 s ≤ 60 := gn_hi hh b79 (by decide)
        refine E_al rfl L0 ?_
        refine E_gr rfl hh (q := 79) rfl ?_
        refine E_il rfl L1 ?_
        refine E_ial rfl hh rfl (by omega) (by decide) (gi_gn hh b79 (by decide)) ?_
        refine E_c rfl ?_
        refine E_dv rfl (by decide) ?_
        have pt := par_tab ⟨gn h 79 s, by omega⟩
        by_cases b4 : gn h 79 s % 2 = 0
        · refine E_ifT rfl (decide_eq_true (pt.mpr b4)) ?_
          refine E_ci 0 rfl (by decide) ?_
          refine E_is rfl (fun lv1 K3 kp => ?_)
          exact wn_lp hh hs rfl f0 (by omega) b4 60 (k := 0) lv1 (by omega) (by omega) (fun m hm => absurd hm (Nat.not_lt_zero m)) (kp 0 _ (by decide) rfl L0) (kp 1 _ (by decide) rfl L1) K3
        · refine E_ifF rfl (decide_eq_false (fun q => b4 (pt.mp q))) ?_
          refine E_c rfl ?_
          exact E_rti rfl ⟨rfl, .inl ⟨_, rfl, by decide, by decide⟩⟩
    · refine E_ifT rfl (by rw [zb_F b2]; rfl) ?_
      exact no
  · refine E_ifT rfl (by rw [zb_F b1]; rfl) ?_
    exact no
end WN
end
