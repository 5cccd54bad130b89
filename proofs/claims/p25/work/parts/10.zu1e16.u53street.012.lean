section
section CNT
variable {h : pm_H} {d : Nat} {v : Int32}
theorem sp_slotsRows (hh : HH h) : Sp (d + 1) 181 h [.ref 0] (fun h' r => h' = h ∧ r = some (.int (nJ (sct (cf h) 4)))) := by
  refine Sp_of aiX8_slotsWithRows rfl rfl rfl ?_
  have L0 : pm_get (lv_args 0 [.ref 0]) 0 = some (.ref 0) := rfl
  generalize lv_args 0 [.ref 0] = lv at L0 ⊢
  refine E_ci 0 rfl (by decide) ?_
  refine E_is rfl (fun lv1 K1 kp1 => ?_)
  refine E_ci 0 rfl (by decide) ?_
  refine E_is rfl (fun lv2 K2 kp2 => ?_)
  exact sw_loop hh 4 (i := 0) lv2 (by omega) (kp2 0 _ (by decide) rfl (kp1 0 _ (by decide) rfl L0)) (kp2 1 _ (by decide) rfl K1) K2
theorem sp_count8 (hh : HH h) : Sp (d + 2) 93 h [.ref 0, .int v] (fun _ r => r = some (.int (cnv (c8f h) v))) := by
  refine Sp_of aiX8_count rfl rfl rfl ?_
  have L0 : pm_get (lv_args 0 [.ref 0, .int v]) 0 = some (.ref 0) := rfl
  have L1 : pm_get (lv_args 0 [.ref 0, .int v]) 1 = some (.int v) := rfl
  generalize lv_args 0 [.ref 0, .int v] = lv at L0 L1 ⊢
  refine E_il rfl L1 ?_
  by_cases q : 0 ≤ v.toInt ∧ v.toInt ≤ 8
  · obtain ⟨k, hk, rfl⟩ := nJ_of2 (n := 8) q.1 q.2
    rw [cnv_in hk]
    match k, hk with
    | 0, _ =>
      refine E_tsA (t := 52) rfl (by decide) (by decide) ?_
      refine E_al rfl L0 ?_
      refine E_ogr (q := 15) rfl hh rfl rfl ?_
      refine E_ogf (q := (0, 8)) rfl hh rfl rfl rfl ?_
      exact E_rti rfl rfl
    | 1, _ =>
      refine E_tsA (t := 60) rfl (by decide) (by decide) ?_
      refine E_al rfl L0 ?_
      refine E_ogr (q := 15) rfl hh rfl rfl ?_
      refine E_ogf (q := (0, 3)) rfl hh rfl rfl rfl ?_
      exact E_rti rfl rfl
    | 2, _ =>
      refine E_tsA (t := 68) rfl (by decide) (by decide) ?_
      refine E_al rfl L0 ?_
      refine E_ogr (q := 15) rfl hh rfl rfl ?_
      refine E_ogf (q := (0, 10)) rfl hh rfl rfl rfl ?_
      exact E_rti rfl rfl
    | 3, _ =>
      refine E_tsA (t := 76) rfl (by decide) (by decide) ?_
      refine E_al rfl L0 ?_
      refine E_ogr (q := 15) rfl hh rfl rfl ?_
      refine E_ogf (q := (0, 8)) rfl hh rfl rfl rfl ?_
      exact E_rti rfl rfl
    | 4, _ =>
      refine E_tsA (t := 84) rfl (by decide) (by decide) ?_
      refine E_al rfl L0 ?_
      refine E_ogr (q := 15) rfl hh rfl rfl ?_
      refine E_ogf (q := (0, 8)) rfl hh rfl rfl rfl ?_
      exact E_rti rfl rfl
    | 5, _ =>
      refine E_tsA (t := 92) rfl (by decide) (by decide) ?_
      refine E_al rfl L0 ?_
      refine E_ogr (q := 15) rfl hh rfl rfl ?_
      refine E_ogf (q := (0, 20)) rfl hh rfl rfl rfl ?_
      exact E_rti rfl rfl
    | 6, _ =>
      refine E_tsA (t := 100) rfl (by decide) (by decide) ?_
      refine E_al rfl L0 ?_
      refine E_ogr (q := 15) rfl hh rfl rfl ?_
      refine E_ogf (q := ((-2147483648), 2147483647)) rfl hh rfl rfl rfl ?_
      exact E_rti rfl rfl
    | 7, _ =>
      refine E_tsA (t := 108) rfl (by decide) (by decide) ?_
      refine E_al rfl L0 ?_
      refine E_ogr (q := 1) rfl hh rfl rfl ?_
      refine E_ogf (q := (0, 500)) rfl hh rfl rfl rfl ?_
      exact E_rti rfl rfl
    | 8, _ =>
      refine E_tsA (t := 116) rfl (by decide) (by decide) ?_
      refine E_al rfl L0 ?_
      refine E_call rfl (sp_slotsRows (d := d) hh) (chkO (a := 0) hh rfl rfl rfl rfl (by show 0 ≤ 8; decide)) (fun h1 r1 => ?_)
      rintro ⟨e1, f1⟩
      rw [e1, f1]
      exact E_rti rfl rfl
  · refine E_tsD rfl (by rw [Bool.or_eq_true, decide_eq_true_iff, decide_eq_true_iff]; omega) ?_
    refine E_c rfl ?_
    exact E_rti rfl (by unfold cnv; rw [if_neg q])
theorem cw_loop {h0 : pm_H} (hh : HH h) (e78 : ∀ s, gi h 78 s = gi h0 78 s) (j : Nat) : ∀ {i : Nat} (lv : List (Nat × Value)), i + j = 4 → pm_get lv 0 = some (.ref 77) → pm_get lv 2 = some (.int (nJ (sct (rf h0) i))) → pm_get lv 3 = some (.int (nJ i)) → Ends (pm_at tX9_count) (pm_Rt pm_P d) (66, lv, [], h, 0, 0) (fun _ r => r = some (.int (nJ (sct (rf h0) 4)))) := by
  induction j with
  | zero =>
    intro i lv hj L0 L2 L3
    have e : i = 4 := by omega
    subst e
    refine E_il rfl L3 ?_
    refine E_ci 4 rfl (by decide) ?_
    refine E_icT rfl (decide_eq_true ((nJ_le (by omega) (by omega)).mpr (by omega))) ?_
    refine E_il rfl L2 ?_
    exact E_rti rfl rfl
  | succ j ih =>
    intro i lv hj L0 L2 L3
    refine E_il rfl L3 ?_
    refine E_ci 4 rfl (by decide) ?_
    refine E_icF rfl (decide_eq_false (fun q => absurd ((nJ_le (by omega) (by omega)).mp q) (by omega))) ?_
    refine E_il rfl L2 ?_
    refine E_al rfl L0 ?_
    refine E_gr rfl hh (q := 78) rfl ?_
    refine E_il rfl L3 ?_
    refine E_ial rfl hh rfl (by omega) (by decide) (e78 i) ?_
    refine E_c rfl ?_
    have es : sct (rf h0) (i + 1) = sct (rf h0) i + (if rf h0 i = 0 then 0 else 1) := rfl
    have fin : ∀ {w : Nat}, sct (rf h0) (i + 1) = sct (rf h0) i + w → Ends (pm_at tX9_count) (pm_Rt pm_P d) (87, lv, [.int (nJ w), .int (nJ (sct (rf h0) i))], h, 0, 0) (fun _ r => r = some (.int (nJ (sct (rf h0) 4)))) := by
      intro w ew
      refine E_bin rfl (nJ_add _ _) ?_
      rw [← ew]
      refine E_is rfl (fun lv1 K2 kp1 => ?_)
      refine E_inc rfl (kp1 3 _ (by decide) rfl L3) (nJ_inc _) (fun lv2 K3 kp2 => ?_)
      refine E_goto rfl ?_
      exact ih lv2 (i := i + 1) (by omega) (kp2 0 _ (by decide) rfl (kp1 0 _ (by decide) rfl L0)) (kp2 2 _ (by decide) rfl K2) K3
    by_cases b : gi h0 78 i = -1
    · refine E_icF rfl (decide_eq_false (fun q => q b)) ?_
      refine E_ci 0 rfl (by decide) ?_
      refine E_goto rfl ?_
      exact fin (by rw [es, if_pos (rf_0 b)])
    · refine E_icT rfl (decide_eq_true b) ?_
      refine E_ci 1 rfl (by decide) ?_
      exact fin (by rw [es, if_neg (rf_1 b)])
theorem sp_count9 (hh : HH h) : Sp (d + 2) 233 h [.ref 77, .int v] (fun _ r => r = some (.int (cnv (c9f h) v))) := by
  refine Sp_of aiX9_count rfl rfl rfl ?_
  have L0 : pm_get (lv_args 0 [.ref 77, .int v]) 0 = some (.ref 77) := rfl
  have L1 : pm_get (lv_args 0 [.ref 77, .int v]) 1 = some (.int v) := rfl
  generalize lv_args 0 [.ref 77, .int v] = lv at L0 L1 ⊢
  refine E_al rfl L0 ?_
  refine E_ci 0 rfl (by decide) ?_
  refine E_pf rfl hh rfl ?_
  have hg : HH (pt h 77 0 (nJ 0)) := HH_ptn hh rfl (by omega) (by omega) (by omega)
  have e1 : ∀ a k, a ≠ 77 → gi (pt h 77 0 (nJ 0)) a k = gi h a k := fun a k ha => gi_ne (fun z => absurd z ha)
  have e6 : gi (pt h 77 0 (nJ 0)) 77 6 = gi h 77 6 := gi_ne (by omega)
  generalize pt h 77 0 (nJ 0) = g at hg e1 e6 ⊢
  refine E_il rfl L1 ?_
  refine E_i2l rfl ?_
  refine E_c rfl ?_
  refine E_c rfl ?_
  refine E_call rfl (sp_in (a := v.toInt) (b := 0) (c := 5) (i2l_toInt _) rfl rfl) (chkS rfl (by show 0 ≤ 8; decide)) (fun h2 r2 => ?_)
  rintro ⟨e2, f2⟩
  rw [e2, f2]
  by_cases b : 0 ≤ v.toInt ∧ v.toInt ≤ 5
  · refine E_ifF rfl (by rw [zb_T b]; rfl) ?_
    obtain ⟨k, hk, rfl⟩ := nJ_of2 (n := 5) b.1 b.2
    rw [cnv_in (by omega)]
    refine E_al rfl L0 ?_
    refine E_gr rfl hg (q := 84) rfl ?_
    refine E_il rfl L1 ?_
    refine E_ial rfl hg rfl (by omega) (by decide) (e1 84 k (by omega)) ?_
    refine E_rti rfl ?_
    match k, hk with
    | 0, _ => rfl
    | 1, _ => rfl
    | 2, _ => rfl
    | 3, _ => rfl
    | 4, _ => rfl
    | 5, _ => rfl
  · refine E_ifT rfl (by rw [zb_F b]; rfl) ?_
    refine E_ci 0 rfl (by decide) ?_
    refine E_is rfl (fun lv1 K2 kp => ?_)
    have M0 := kp 0 _ (by decide) rfl L0
    refine E_il rfl (kp 1 _ (by decide) rfl L1) ?_
    by_cases q : 6 ≤ v.toInt ∧ v.toInt ≤ 8
    · obtain ⟨k, hk, rfl⟩ := nJ_of2 (n := 8) (x := v) (by omega) q.2
      have e := nJ_toInt (n := k) (by omega)
      rw [cnv_in hk]
      have k6 : 6 ≤ k := by omega
      match k, hk, k6 with
      | 6, _, _ =>
        refine E_tsA (t := 52) rfl (by decide) (by decide) ?_
        refine E_al rfl M0 ?_
        refine E_gr rfl hg (q := 83) rfl ?_
        refine E_ci 0 rfl (by decide) ?_
        refine E_ial rfl hg rfl (by omega) (by decide) (e1 83 0 (by omega)) ?_
        exact E_rti rfl rfl
      | 7, _, _ =>
        refine E_tsA (t := 59) rfl (by decide) (by decide) ?_
        refine E_al rfl M0 ?_
        refine E_gf (q := (0, 500)) rfl hg rfl e6 ?_
        exact E_rti rfl rfl
      | 8, _, _ =>
        refine E_tsA (t := 64) rfl (by decide) (by decide) ?_
        refine E_ci 0 rfl (by decide) ?_
        refine E_is rfl (fun lv2 K3 kp2 => ?_)
        exact cw_loop hg (fun s => e1 78 s (by omega)) 4 (i := 0) lv2 (by omega) (kp2 0 _ (by decide) rfl M0) (kp2 2 _ (by decide) rfl K2) K3
    · refine E_tsD rfl (by rw [Bool.or_eq_true, decide_eq_true_iff, decide_eq_true_iff]; omega) ?_
      refine E_c rfl ?_
      exact E_rti rfl (by unfold cnv; rw [if_neg (by omega)])
end CNT
end

