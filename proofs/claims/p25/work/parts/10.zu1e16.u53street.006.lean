section
section AX8
variable {h : pm_H} {d : Nat} {x y : Int32}
theorem ka_twoX {h0 : pm_H} {a m p : Nat} {C G Z t : Nat → Nat} (m8 : m ≤ 8) (ha : a ≤ 20) (v : ∀ i, i < a → vAct m p C G Z i) (j : Nat) : ∀ {h : pm_H} {i : Nat} (lv : List (Nat × Value)), i + j = a → HH h → fr_g KAF h0 h → gi h 15 6 = nJ a → gn h 21 = C → gn h 22 = G → gn h 23 = Z → (∀ j, j < m → gn h 17 j = nwF C G Z t i j) → pm_get lv 0 = some (.ref 15) → pm_get lv 2 = some (.int (nJ i)) → Ends (pm_at tX5_keepActs) (pm_Rt pm_P (d + 1)) (35, lv, [], h, 0, 0) (fun h' r => r = none ∧ HH h' ∧ fr_g KAF h0 h' ∧ gi h' 15 6 = nJ a ∧ ∀ j, j < m → gn h' 17 j = nwF C G Z t a j) := by
  induction j with
  | zero =>
    intro h i lv hj hh hf g6 gC gG gZ hx L0 L2
    refine E_il rfl L2 ?_
    refine E_al rfl L0 ?_
    refine E_ogf (q := (0, 20)) rfl hh rfl rfl g6 ?_
    refine E_icT rfl (decide_eq_true ((nJ_le (by omega) (by omega)).mpr (by omega))) ?_
    have ei : i = a := by omega
    exact E_ret rfl ⟨rfl, hh, hf, g6, fun j hj => by rw [← ei]; exact hx j hj⟩
  | succ j ih =>
    intro h i lv hj hh hf g6 gC gG gZ hx L0 L2
    refine E_il rfl L2 ?_
    refine E_al rfl L0 ?_
    refine E_ogf (q := (0, 20)) rfl hh rfl rfl g6 ?_
    refine E_icF rfl (decide_eq_false (fun q => absurd ((nJ_le (by omega) (by omega)).mp q) (by omega))) ?_
    refine E_al rfl L0 ?_
    refine E_il rfl L2 ?_
    refine E_call rfl (sp_doActX (d := d) hh (by omega) (fun q => by
      have v1 := v i (by omega)
      have z3 := gn_eq0 hh (a := 23) (k := i) (bd_u rfl (by omega)) (by decide)
      rw [gG]
      rw [gZ] at z3
      rcases v1.2 with ⟨z0, -, -⟩ | ⟨-, g1⟩
      · exact absurd (z3.mpr z0) q
      · omega)) (chkO (a := 15) hh rfl rfl rfl rfl (by show 0 ≤ 8; decide)) (fun h1 r1 => ?_)
    rintro ⟨e1, hh1, f1, n1⟩
    rw [gC, gG, gZ] at n1
    rw [e1]
    refine E_inc rfl L2 (nJ_inc _) (fun lv1 K2 kp => ?_)
    refine E_goto rfl ?_
    exact ih lv1 (i := i + 1) (by omega) hh1 (fr_trans hf (fr_wk rfl f1)) (by rw [fr_gi f1 (rg_no rfl _)]; exact g6) (by rw [← gC]; funext k; exact fr_gn f1 (rg_no rfl _)) (by rw [← gG]; funext k; exact fr_gn f1 (rg_no rfl _)) (by rw [← gZ]; funext k; exact fr_gn f1 (rg_no rfl _)) (fun j hj => by rw [n1]; exact dAct_cg rfl rfl rfl (v i (by omega)) hx j hj) (kp 0 _ (by decide) rfl L0) K2
theorem ka_oneX {h0 : pm_H} {a m p : Nat} {C G Z t : Nat → Nat} (m8 : m ≤ 8) (ha : a ≤ 20) (v : ∀ i, i < a → vAct m p C G Z i) (j : Nat) : ∀ {h : pm_H} {i : Nat} (lv : List (Nat × Value)), i + j = m → HH h → fr_g KAF h0 h → gi h 15 4 = nJ m → gi h 15 6 = nJ a → gn h 21 = C → gn h 22 = G → gn h 23 = Z → gn h 16 = t → (∀ j, j < i → gn h 17 j = t j) → pm_get lv 0 = some (.ref 15) → pm_get lv 2 = some (.int (nJ i)) → Ends (pm_at tX5_keepActs) (pm_Rt pm_P (d + 1)) (7, lv, [], h, 0, 0) (fun h' r => r = none ∧ HH h' ∧ fr_g KAF h0 h' ∧ gi h' 15 6 = nJ a ∧ ∀ j, j < m → gn h' 17 j = nwF C G Z t a j) := by
  induction j with
  | zero =>
    intro h i lv hj hh hf g4 g6 gC gG gZ gt hx L0 L2
    refine E_il rfl L2 ?_
    refine E_al rfl L0 ?_
    refine E_ogf (q := (0, 8)) rfl hh rfl rfl g4 ?_
    refine E_icT rfl (decide_eq_true ((nJ_le (by omega) (by omega)).mpr (by omega))) ?_
    refine E_ci 0 rfl (by decide) ?_
    refine E_is rfl (fun lv1 K2 kp => ?_)
    exact ka_twoX m8 ha v a (i := 0) lv1 (by omega) hh hf g6 gC gG gZ (fun j hj => hx j (by omega)) (kp 0 _ (by decide) rfl L0) K2
  | succ j ih =>
    intro h i lv hj hh hf g4 g6 gC gG gZ gt hx L0 L2
    refine E_il rfl L2 ?_
    refine E_al rfl L0 ?_
    refine E_ogf (q := (0, 8)) rfl hh rfl rfl g4 ?_
    refine E_icF rfl (decide_eq_false (fun q => absurd ((nJ_le (by omega) (by omega)).mp q) (by omega))) ?_
    have t1 : gi h 16 i = nJ (gn h 16 i) := gi_gn hh (bd_u rfl (by omega)) (by decide)
    have t2 : gn h 16 i ≤ 8 := gn_hi hh (bd_u rfl (by omega)) (by decide)
    refine E_al rfl L0 ?_
    refine E_ogr (q := 17) rfl hh rfl rfl ?_
    refine E_il rfl L2 ?_
    refine E_al rfl L0 ?_
    refine E_ogr (q := 16) rfl hh rfl rfl ?_
    refine E_il rfl L2 ?_
    refine E_ial rfl hh rfl (by omega) (by decide) t1 ?_
    refine E_ias rfl hh rfl (by omega) (by decide) ?_
    have b17 : bd 17 i = some (0, 8) := bd_u rfl (by omega)
    refine E_inc rfl L2 (nJ_inc _) (fun lv1 K2 kp => ?_)
    refine E_goto rfl ?_
    exact ih lv1 (i := i + 1) (by omega) (HH_ptn hh b17 (by omega) (by omega) (by omega)) (fr_ptr (l := 0) (u := 7) rfl (by omega) (by omega) hf) (by rw [gi_ne (by omega)]; exact g4) (by rw [gi_ne (by omega)]; exact g6) (by rw [← gC]; funext k; exact gn_ne (by omega)) (by rw [← gG]; funext k; exact gn_ne (by omega)) (by rw [← gZ]; funext k; exact gn_ne (by omega)) (by rw [← gt]; funext k; exact gn_ne (by omega)) (fun j hj => by
      rw [gn_fup hh b17 (by omega) (by omega) (by omega)]
      by_cases e : j = i
      · rw [e, fup_s, gt]
      · rw [fup_n e]; exact hx j (by omega)) (kp 0 _ (by decide) rfl L0) K2
theorem sp_keepActsX {a p : Nat} (hh : HH h) (ha : a ≤ 20) (v : ∀ i, i < a → vAct (gn h 15 4) p (gn h 21) (gn h 22) (gn h 23) i) : Sp (d + 2) 53 h [.ref 15, .int (nJ a)] (fun h' r => r = none ∧ HH h' ∧ fr_g KAF h h' ∧ gi h' 15 6 = nJ a ∧ ∀ j, j < gn h 15 4 → gn h' 17 j = nwF (gn h 21) (gn h 22) (gn h 23) (gn h 16) a j) := by
  obtain ⟨-, -, a3, a4, -⟩ := g15 hh
  refine Sp_of aiX5_keepActs rfl rfl rfl ?_
  have L0 : pm_get (lv_args 0 [.ref 15, .int (nJ a)]) 0 = some (.ref 15) := rfl
  have L1 : pm_get (lv_args 0 [.ref 15, .int (nJ a)]) 1 = some (.int (nJ a)) := rfl
  generalize lv_args 0 [.ref 15, .int (nJ a)] = lv at L0 L1 ⊢
  refine E_al rfl L0 ?_
  refine E_il rfl L1 ?_
  refine E_opf (q := (0, 20)) rfl hh rfl rfl ?_
  have h1 : HH (pt h 15 6 (nJ a)) := HH_ptn hh rfl (by omega) (by omega) (by omega)
  refine E_ci 0 rfl (by decide) ?_
  refine E_is rfl (fun lv1 K2 kp => ?_)
  exact ka_oneX (d := d) (p := p) a4 ha v (gn h 15 4) (i := 0) lv1 (by omega) h1 (fr_ptr (l := 6) (u := 6) rfl (by omega) (by omega) (fr_rf _ _)) (by rw [gi_ne (by omega)]; exact a3) (gi_ptn hh rfl (by omega) (by omega) (by omega)) (by funext k; exact gn_ne (by omega)) (by funext k; exact gn_ne (by omega)) (by funext k; exact gn_ne (by omega)) (by funext k; exact gn_ne (by omega)) (fun j hj => absurd hj (Nat.not_lt_zero j)) (kp 0 _ (by decide) rfl L0) K2
theorem sp_undo8X {p : Nat} (hh : HH h) (v : ∀ i, i < gn h 15 6 → vAct (gn h 15 4) p (gn h 21) (gn h 22) (gn h 23) i) (N : ∀ j, j < gn h 15 4 → gn h 17 j = nwF (gn h 21) (gn h 22) (gn h 23) (gn h 16) (gn h 15 6) j) : Sp (d + 3) 195 h [.ref 0] (fun h' r => r = some (.int (udv (gn h 15 0) (gn h 15 6))) ∧ gi h' 15 6 = nJ (uda (gn h 15 0) (gn h 15 6)) ∧ fr_g KAF h h' ∧ (∀ j, j < gn h 15 4 → gn h' 17 j = nwF (gn h 21) (gn h 22) (gn h 23) (gn h 16) (uda (gn h 15 0) (gn h 15 6)) j)) := by
  obtain ⟨a1, a2, a3, a4, a5, a6⟩ := g15 hh
  refine Sp_of aiX8_undo rfl rfl rfl ?_
  have L0 : pm_get (lv_args 0 [.ref 0]) 0 = some (.ref 0) := rfl
  generalize lv_args 0 [.ref 0] = lv at L0 ⊢
  unfold udv uda
  refine E_al rfl L0 ?_
  refine E_call rfl (Sp_le (by omega) (sp_hasStreet8 (d := d) hh)) (chkO (a := 0) hh rfl rfl rfl rfl (by show 0 ≤ 8; decide)) (fun h1 r1 => ?_)
  rintro ⟨e1, f1⟩
  rw [e1, f1]
  by_cases b : gn h 15 0 = 0
  · refine E_ifF rfl (by rw [zb_F (by omega)]; rfl) ?_
    refine E_c rfl ?_
    exact E_rti rfl ⟨by rw [if_pos b], by rw [if_pos b]; exact a5, fr_rf _ _, by rw [if_pos b]; exact N⟩
  refine E_ifT rfl (by rw [zb_T (by omega)]; rfl) ?_
  rw [if_neg b, if_neg b]
  refine E_al rfl L0 ?_
  refine E_ogr (q := 15) rfl hh rfl rfl ?_
  refine E_ogf (q := (0, 20)) rfl hh rfl rfl a5 ?_
  by_cases b2 : gn h 15 6 = 0
  · refine E_ifF rfl (decide_eq_false (fun q => q ((nJ_eq0 (by omega)).mpr b2))) ?_
    refine E_c rfl ?_
    exact E_rti rfl ⟨by rw [if_pos b2], by rw [a5, b2], fr_rf _ _, by rw [b2] at N ⊢; exact N⟩
  refine E_ifT rfl (decide_eq_true (fun q => b2 ((nJ_eq0 (by omega)).mp q))) ?_
  rw [if_neg b2]
  refine E_al rfl L0 ?_
  refine E_ogr (q := 15) rfl hh rfl rfl ?_
  refine E_al rfl L0 ?_
  refine E_ogr (q := 15) rfl hh rfl rfl ?_
  refine E_ogf (q := (0, 20)) rfl hh rfl rfl a5 ?_
  refine E_ci 1 rfl (by decide) ?_
  refine E_bin rfl (nJ_sub (by omega)) ?_
  refine E_call rfl (sp_keepActsX (p := p) (d := d) (a := gn h 15 6 - 1) hh (by omega) (fun i hi => v i (by omega))) (chkO (a := 15) hh rfl rfl rfl rfl (by show 0 ≤ 8; decide)) (fun h2 r2 => ?_)
  rintro ⟨e2, hh2, f2, g2, n2⟩
  rw [e2]
  refine E_al rfl L0 ?_
  refine E_ogr (q := 15) rfl hh2 rfl rfl ?_
  refine E_ogf (q := (0, 20)) rfl hh2 rfl rfl g2 ?_
  exact E_rti rfl ⟨rfl, g2, f2, n2⟩
theorem sp_anew8X {p : Nat} (hh : HH h) (N : ∀ j, j < gn h 15 4 → gn h 17 j = nwF (gn h 21) (gn h 22) (gn h 23) (gn h 16) (gn h 15 6) j) : Sp (d + 3) 79 h [.ref 0] (fun h' r => r = some (.int (anv (gn h 15 0) (gn h 15 6))) ∧ gi h' 15 6 = nJ (ana (gn h 15 0) (gn h 15 6)) ∧ fr_g KAF h h' ∧ (∀ j, j < gn h 15 4 → gn h' 17 j = nwF (gn h 21) (gn h 22) (gn h 23) (gn h 16) (ana (gn h 15 0) (gn h 15 6)) j)) := by
  obtain ⟨a1, a2, a3, a4, a5, a6⟩ := g15 hh
  refine Sp_of aiX8_anew rfl rfl rfl ?_
  have L0 : pm_get (lv_args 0 [.ref 0]) 0 = some (.ref 0) := rfl
  generalize lv_args 0 [.ref 0] = lv at L0 ⊢
  unfold anv ana
  refine E_al rfl L0 ?_
  refine E_call rfl (Sp_le (by omega) (sp_hasStreet8 (d := d) hh)) (chkO (a := 0) hh rfl rfl rfl rfl (by show 0 ≤ 8; decide)) (fun h1 r1 => ?_)
  rintro ⟨e1, f1⟩
  rw [e1, f1]
  by_cases b : gn h 15 0 = 0
  · refine E_ifF rfl (by rw [zb_F (by omega)]; rfl) ?_
    refine E_c rfl ?_
    exact E_rti rfl ⟨by rw [if_pos b], by rw [if_pos b]; exact a5, fr_rf _ _, by rw [if_pos b]; exact N⟩
  refine E_ifT rfl (by rw [zb_T (by omega)]; rfl) ?_
  rw [if_neg b, if_neg b]
  refine E_al rfl L0 ?_
  refine E_ogr (q := 15) rfl hh rfl rfl ?_
  refine E_ogf (q := (0, 20)) rfl hh rfl rfl a5 ?_
  refine E_is rfl (fun lv1 K1 kp => ?_)
  refine E_al rfl (kp 0 _ (by decide) rfl L0) ?_
  refine E_ogr (q := 15) rfl hh rfl rfl ?_
  refine E_ci 0 rfl (by decide) ?_
  refine E_call rfl (sp_keepActsX (d := d) (a := 0) (p := p) hh (by omega) (fun i hi => absurd hi (Nat.not_lt_zero i))) (chkO (a := 15) hh rfl rfl rfl rfl (by show 0 ≤ 8; decide)) (fun h2 r2 => ?_)
  rintro ⟨e2, hh2, f2, g2, n2⟩
  rw [e2]
  refine E_il rfl K1 ?_
  exact E_rti rfl ⟨rfl, g2, f2, n2⟩
/-- an act more -/
noncomputable def ADD (h h' : pm_H) (a c z t : Nat) : Prop := gi h' 15 6 = nJ (a + 1) ∧ gn h' 21 = fup (gn h 21) a c ∧ gn h' 22 = fup (gn h 22) a z ∧ gn h' 23 = fup (gn h 23) a t ∧ gn h' 17 = dAct (fup (gn h 21) a c) (fup (gn h 22) a z) (fup (gn h 23) a t) a (gn h 17)
end AX8
end
