/-! acts of the class, exactly (written by gen_u56.py; wants t56, t57, u55) -/
section AX8
variable {h : pm_H} {d : Nat} {x y : Int32}
theorem sp_doActX {i : Nat} (hh : HH h) (hi : i < 20) (hx : ¬ gi h 23 i = 0 → gn h 22 i ≤ 7) : Sp (d + 1) 51 h [.ref 15, .int (nJ i)] (fun h' r => r = none ∧ HH h' ∧ fr_g [(17, 0, 7)] h h' ∧ gn h' 17 = dAct (gn h 21) (gn h 22) (gn h 23) i (gn h 17)) := by
  have z3 := gn_eq0 hh (a := 23) (k := i) (bd_u rfl hi) (by decide)
  have c1 : gi h 21 i = nJ (gn h 21 i) := gi_gn hh (bd_u rfl hi) (by decide)
  have c2 : gn h 21 i ≤ 7 := gn_hi hh (bd_u rfl hi) (by decide)
  have x1 : gi h 22 i = nJ (gn h 22 i) := gi_gn hh (bd_u rfl hi) (by decide)
  have x2 : gn h 22 i ≤ 8 := gn_hi hh (bd_u rfl hi) (by decide)
  refine Sp_of aiX5_doAct rfl rfl rfl ?_
  have L0 : pm_get (lv_args 0 [.ref 15, .int (nJ i)]) 0 = some (.ref 15) := rfl
  have L1 : pm_get (lv_args 0 [.ref 15, .int (nJ i)]) 1 = some (.int (nJ i)) := rfl
  generalize lv_args 0 [.ref 15, .int (nJ i)] = lv at L0 L1 ⊢
  refine E_al rfl L0 ?_
  refine E_ogr (q := 21) rfl hh rfl rfl ?_
  refine E_il rfl L1 ?_
  refine E_ial rfl hh rfl hi (by decide) c1 ?_
  refine E_is rfl (fun lv1 K2 kp1 => ?_)
  refine E_al rfl (kp1 0 _ (by decide) rfl L0) ?_
  refine E_ogr (q := 22) rfl hh rfl rfl ?_
  refine E_il rfl (kp1 1 _ (by decide) rfl L1) ?_
  refine E_ial rfl hh rfl hi (by decide) x1 ?_
  refine E_is rfl (fun lv2 K3 kp2 => ?_)
  have M0 := kp2 0 _ (by decide) rfl (kp1 0 _ (by decide) rfl L0)
  have M1 := kp2 1 _ (by decide) rfl (kp1 1 _ (by decide) rfl L1)
  have M2 := kp2 2 _ (by decide) rfl K2
  refine E_al rfl M0 ?_
  refine E_ogr (q := 23) rfl hh rfl rfl ?_
  refine E_il rfl M1 ?_
  refine E_zalB rfl hh rfl hi (by decide) rfl ?_
  have b17 : ∀ k, k ≤ 7 → bd 17 k = some (0, 8) := fun k hk => bd_u rfl (by omega)
  by_cases b : gi h 23 i = 0
  · refine E_ifT rfl (decide_eq_true b) ?_
    refine E_al rfl M0 ?_
    refine E_ogr (q := 17) rfl hh rfl rfl ?_
    refine E_il rfl M2 ?_
    refine E_il rfl K3 ?_
    refine E_ias rfl hh rfl (by omega) (by decide) ?_
    exact E_ret rfl ⟨rfl, HH_ptn hh (b17 _ c2) (by omega) (by omega) (by omega), fr_ptr (l := 0) (u := 7) rfl (by omega) (by omega) (fr_rf _ _), by unfold dAct; rw [if_pos (z3.mp b), gn_fup hh (b17 _ c2) (by omega) (by omega) (by omega)]⟩
  · have x7 := hx b
    refine E_ifF rfl (decide_eq_false b) ?_
    have n1 : gi h 17 (gn h 21 i) = nJ (gn h 17 (gn h 21 i)) := gi_gn hh (b17 _ c2) (by decide)
    have n2 : gn h 17 (gn h 21 i) ≤ 8 := gn_hi hh (b17 _ c2) (by decide)
    have n3 : gi h 17 (gn h 22 i) = nJ (gn h 17 (gn h 22 i)) := gi_gn hh (b17 _ x7) (by decide)
    have n4 : gn h 17 (gn h 22 i) ≤ 8 := gn_hi hh (b17 _ x7) (by decide)
    refine E_al rfl M0 ?_
    refine E_ogr (q := 17) rfl hh rfl rfl ?_
    refine E_il rfl M2 ?_
    refine E_ial rfl hh rfl (by omega) (by decide) n1 ?_
    refine E_is rfl (fun lv3 K4 kp3 => ?_)
    have N0 := kp3 0 _ (by decide) rfl M0
    have N2 := kp3 2 _ (by decide) rfl M2
    have N3 := kp3 3 _ (by decide) rfl K3
    refine E_al rfl N0 ?_
    refine E_ogr (q := 17) rfl hh rfl rfl ?_
    refine E_il rfl N2 ?_
    refine E_al rfl N0 ?_
    refine E_ogr (q := 17) rfl hh rfl rfl ?_
    refine E_il rfl N3 ?_
    refine E_ial rfl hh rfl (by omega) (by decide) n3 ?_
    refine E_ias rfl hh rfl (by omega) (by decide) ?_
    have h1 : HH (pt h 17 (gn h 21 i) (nJ (gn h 17 (gn h 22 i)))) := HH_ptn hh (b17 _ c2) (by omega) (by omega) (by omega)
    refine E_al rfl N0 ?_
    refine E_ogr (q := 17) rfl h1 rfl rfl ?_
    refine E_il rfl N3 ?_
    refine E_il rfl K4 ?_
    refine E_ias rfl h1 rfl (by omega) (by decide) ?_
    refine E_goto rfl ?_
    exact E_ret rfl ⟨rfl, HH_ptn h1 (b17 _ x7) (by omega) (by omega) (by omega), fr_ptr (l := 0) (u := 7) rfl (by omega) (by omega) (fr_ptr (l := 0) (u := 7) rfl (by omega) (by omega) (fr_rf _ _)), by unfold dAct; rw [if_neg (fun q => b (z3.mpr q)), gn_fup h1 (b17 _ x7) (by omega) (by omega) (by omega), gn_fup hh (b17 _ c2) (by omega) (by omega) (by omega)]⟩
theorem ka_twoX {h0 : pm_H} {a m p : Nat} {C G Z t : Nat → Nat} (m8 : m ≤ 8) (ha : a ≤ 20) (v : ∀ i, i < a → vAct m p C G Z i) (j : Nat) : ∀ {h : pm_H} {i : Nat} (lv : List (Nat × Value)), i + j = a → HH h → fr_g KAF h0 h → gi h 15 6 = nJ a → gn h 21 = C → gn h 22 = G → gn h 23 = Z → (∀ j, j < m → gn h 17 j = nwF C G Z t i j) → pm_get lv 0 = some (.ref 15) → pm_get lv 2 = some (.int (nJ i)) → Ends (pm_at tX5_keepActs) (pm_Rt pm_P (d + 1)) (35, lv, [], h, 0, 0) (fun h' r => r = none ∧ HH h' ∧ fr_g KAF h0 h' ∧ gi h' 15 6 = nJ a ∧ ∀ j, j < m → gn h' 17 j = nwF C G Z t a j) := by
  induction j with
  | zero =>
    intro h i lv hj hh hf g6 gC gG gZ hx L0 L2
    refine E_il rfl L2 ?_
    refine E_al rfl L0 ?_
    refine E_ogf (q := (0, 20)) rfl hh rfl rfl g6 ?_
    refine E_icT rfl (decide_eq_true ((nJ_le (by omega) (by omega)).mpr (by omega))) ?_
    have ei : i = a := by omega
    exact E_ret rfl ⟨rfl, hh, hf, g6, fun j hj => by rw [← ei]; exact hx j hj⟩
  | succ j ih =>
    intro h i lv hj hh hf g6 gC gG gZ hx L0 L2
    refine E_il rfl L2 ?_
    refine E_al rfl L0 ?_
    refine E_ogf (q := (0, 20)) rfl hh rfl rfl g6 ?_
    refine E_icF rfl (decide_eq_false (fun q => absurd ((nJ_le (by omega) (by omega)).mp q) (by omega))) ?_
    refine E_al rfl L0 ?_
    refine E_il rfl L2 ?_
    refine E_call rfl (sp_doActX (d := d) hh (by omega) (fun q => by
      have v1 := v i (by omega)
      have z3 := gn_eq0 hh (a := 23) (k := i) (bd_u rfl (by omega)) (by decide)
      rw [gG]
      rw [gZ] at z3
      rcases v1.2 with ⟨z0, -, -⟩ | ⟨-, g1⟩
      · exact absurd (z3.mpr z0) q
      · omega)) (chkO (a := 15) hh rfl rfl rfl rfl (by show 0 ≤ 8; decide)) (fun h1 r1 => ?_)
    rintro ⟨e1, hh1, f1, n1⟩
    rw [gC, gG, gZ] at n1
    rw [e1]
    refine E_inc rfl L2 (nJ_inc _) (fun lv1 K2 kp => ?_)
    refine E_goto rfl ?_
    exact ih lv1 (i := i + 1) (by omega) hh1 (fr_trans hf (fr_wk rfl f1)) (by rw [fr_gi f1 (rg_no rfl _)]; exact g6) (by rw [← gC]; funext k; exact fr_gn f1 (rg_no rfl _)) (by rw [← gG]; funext k; exact fr_gn f1 (rg_no rfl _)) (by rw [← gZ]; funext k; exact fr_gn f1 (rg_no rfl _)) (fun j hj => by rw [n1]; exact dAct_cg rfl rfl rfl (v i (by omega)) hx j hj) (kp 0 _ (by decide) rfl L0) K2
theorem ka_oneX {h0 : pm_H} {a m p : Nat} {C G Z t : Nat → Nat} (m8 : m ≤ 8) (ha : a ≤ 20) (v : ∀ i, i < a → vAct m p C G Z i) (j : Nat) : ∀ {h : pm_H} {i : Nat} (lv : List (Nat × Value)), i + j = m → HH h → fr_g KAF h0 h → gi h 15 4 = nJ m → gi h 15 6 = nJ a → gn h 21 = C → gn h 22 = G → gn h 23 = Z → gn h 16 = t → (∀ j, j < i → gn h 17 j = t j) → pm_get lv 0 = some (.ref 15) → pm_get lv 2 = some (.int (nJ i)) → Ends (pm_at tX5_keepActs) (pm_Rt pm_P (d + 1)) (7, lv, [], h, 0, 0) (fun h' r => r = none ∧ HH h' ∧ fr_g KAF h0 h' ∧ gi h' 15 6 = nJ a ∧ ∀ j, j < m → gn h' 17 j = nwF C G Z t a j) := by
  induction j with
  | zero =>
    intro h i lv hj hh hf g4 g6 gC gG gZ gt hx L0 L2
    refine E_il rfl L2 ?_
    refine E_al rfl L0 ?_
    refine E_ogf (q := (0, 8)) rfl hh rfl rfl g4 ?_
    refine E_icT rfl (decide_eq_true ((nJ_le (by omega) (by omega)).mpr (by omega))) ?_
    refine E_ci 0 rfl (by decide) ?_
    refine E_is rfl (fun lv1 K2 kp => ?_)
    exact ka_twoX m8 ha v a (i := 0) lv1 (by omega) hh hf g6 gC gG gZ (fun j hj => hx j (by omega)) (kp 0 _ (by decide) rfl L0) K2
  | succ j ih =>
    intro h i lv hj hh hf g4 g6 gC gG gZ gt hx L0 L2
    refine E_il rfl L2 ?_
    refine E_al rfl L0 ?_
    refine E_ogf (q := (0, 8)) rfl hh rfl rfl g4 ?_
    refine E_icF rfl (decide_eq_false (fun q => absurd ((nJ_le (by omega) (by omega)).mp q) (by omega))) ?_
    have t1 : gi h 16 i = nJ (gn h 16 i) := gi_gn hh (bd_u rfl (by omega)) (by decide)
    have t2 : gn h 16 i ≤ 8 := gn_hi hh (bd_u rfl (by omega)) (by decide)
    refine E_al rfl L0 ?_
    refine E_ogr (q := 17) rfl hh rfl rfl ?_
    refine E_il rfl L2 ?_
    refine E_al rfl L0 ?_
    refine E_ogr (q := 16) rfl hh rfl rfl ?_
    refine E_il rfl L2 ?_
    refine E_ial rfl hh rfl (by omega) (by decide) t1 ?_
    refine E_ias rfl hh rfl (by omega) (by decide) ?_
    have b17 : bd 17 i = some (0, 8) := bd_u rfl (by omega)
    refine E_inc rfl L2 (nJ_inc _) (fun lv1 K2 kp => ?_)
    refine E_goto rfl ?_
    exact ih lv1 (i := i + 1) (by omega) (HH_ptn hh b17 (by omega) (by omega) (by omega)) (fr_ptr (l := 0) (u := 7) rfl (by omega) (by omega) hf) (by rw [gi_ne (by omega)]; exact g4) (by rw [gi_ne (by omega)]; exact g6) (by rw [← gC]; funext k; exact gn_ne (by omega)) (by rw [← gG]; funext k; exact gn_ne (by omega)) (by rw [← gZ]; funext k; exact gn_ne (by omega)) (by rw [← gt]; funext k; exact gn_ne (by omega)) (fun j hj => by
      rw [gn_fup hh b17 (by omega) (by omega) (by omega)]
      by_cases e : j = i
      · rw [e, fup_s, gt]
      · rw [fup_n e]; exact hx j (by omega)) (kp 0 _ (by decide) rfl L0) K2
theorem sp_keepActsX {a p : Nat} (hh : HH h) (ha : a ≤ 20) (v : ∀ i, i < a → vAct (gn h 15 4) p (gn h 21) (gn h 22) (gn h 23) i) : Sp (d + 2) 53 h [.ref 15, .int (nJ a)] (fun h' r => r = none ∧ HH h' ∧ fr_g KAF h h' ∧ gi h' 15 6 = nJ a ∧ ∀ j, j < gn h 15 4 → gn h' 17 j = nwF (gn h 21) (gn h 22) (gn h 23) (gn h 16) a j) := by
  obtain ⟨-, -, a3, a4, -⟩ := g15 hh
  refine Sp_of aiX5_keepActs rfl rfl rfl ?_
  have L0 : pm_get (lv_args 0 [.ref 15, .int (nJ a)]) 0 = some (.ref 15) := rfl
  have L1 : pm_get (lv_args 0 [.ref 15, .int (nJ a)]) 1 = some (.int (nJ a)) := rfl
  generalize lv_args 0 [.ref 15, .int (nJ a)] = lv at L0 L1 ⊢
  refine E_al rfl L0 ?_
  refine E_il rfl L1 ?_
  refine E_opf (q := (0, 20)) rfl hh rfl rfl ?_
  have h1 : HH (pt h 15 6 (nJ a)) := HH_ptn hh rfl (by omega) (by omega) (by omega)
  refine E_ci 0 rfl (by decide) ?_
  refine E_is rfl (fun lv1 K2 kp => ?_)
  exact ka_oneX (d := d) (p := p) a4 ha v (gn h 15 4) (i := 0) lv1 (by omega) h1 (fr_ptr (l := 6) (u := 6) rfl (by omega) (by omega) (fr_rf _ _)) (by rw [gi_ne (by omega)]; exact a3) (gi_ptn hh rfl (by omega) (by omega) (by omega)) (by funext k; exact gn_ne (by omega)) (by funext k; exact gn_ne (by omega)) (by funext k; exact gn_ne (by omega)) (by funext k; exact gn_ne (by omega)) (fun j hj => absurd hj (Nat.not_lt_zero j)) (kp 0 _ (by decide) rfl L0) K2
theorem sp_undo8X {p : Nat} (hh : HH h) (v : ∀ i, i < gn h 15 6 → vAct (gn h 15 4) p (gn h 21) (gn h 22) (gn h 23) i) (N : ∀ j, j < gn h 15 4 → gn h 17 j = nwF (gn h 21) (gn h 22) (gn h 23) (gn h 16) (gn h 15 6) j) : Sp (d + 3) 195 h [.ref 0] (fun h' r => r = some (.int (udv (gn h 15 0) (gn h 15 6))) ∧ gi h' 15 6 = nJ (uda (gn h 15 0) (gn h 15 6)) ∧ fr_g KAF h h' ∧ (∀ j, j < gn h 15 4 → gn h' 17 j = nwF (gn h 21) (gn h 22) (gn h 23) (gn h 16) (uda (gn h 15 0) (gn h 15 6)) j)) := by
  obtain ⟨a1, a2, a3, a4, a5, a6⟩ := g15 hh
  refine Sp_of aiX8_undo rfl rfl rfl ?_
  have L0 : pm_get (lv_args 0 [.ref 0]) 0 = some (.ref 0) := rfl
  generalize lv_args 0 [.ref 0] = lv at L0 ⊢
  unfold udv uda
  refine E_al rfl L0 ?_
  refine E_call rfl (Sp_le (by omega) (sp_hasStreet8 (d := d) hh)) (chkO (a := 0) hh rfl rfl rfl rfl (by show 0 ≤ 8; decide)) (fun h1 r1 => ?_)
  rintro ⟨e1, f1⟩
  rw [e1, f1]
  by_cases b : gn h 15 0 = 0
  · refine E_ifF rfl (by rw [zb_F (by omega)]; rfl) ?_
    refine E_c rfl ?_
    exact E_rti rfl ⟨by rw [if_pos b], by rw [if_pos b]; exact a5, fr_rf _ _, by rw [if_pos b]; exact N⟩
  refine E_ifT rfl (by rw [zb_T (by omega)]; rfl) ?_
  rw [if_neg b, if_neg b]
  refine E_al rfl L0 ?_
  refine E_ogr (q := 15) rfl hh rfl rfl ?_
  refine E_ogf (q := (0, 20)) rfl hh rfl rfl a5 ?_
  by_cases b2 : gn h 15 6 = 0
  · refine E_ifF rfl (decide_eq_false (fun q => q ((nJ_eq0 (by omega)).mpr b2))) ?_
    refine E_c rfl ?_
    exact E_rti rfl ⟨by rw [if_pos b2], by rw [a5, b2], fr_rf _ _, by rw [b2] at N ⊢; exact N⟩
  refine E_ifT rfl (decide_eq_true (fun q => b2 ((nJ_eq0 (by omega)).mp q))) ?_
  rw [if_neg b2]
  refine E_al rfl L0 ?_
  refine E_ogr (q := 15) rfl hh rfl rfl ?_
  refine E_al rfl L0 ?_
  refine E_ogr (q := 15) rfl hh rfl rfl ?_
  refine E_ogf (q := (0, 20)) rfl hh rfl rfl a5 ?_
  refine E_ci 1 rfl (by decide) ?_
  refine E_bin rfl (nJ_sub (by omega)) ?_
  refine E_call rfl (sp_keepActsX (p := p) (d := d) (a := gn h 15 6 - 1) hh (by omega) (fun i hi => v i (by omega))) (chkO (a := 15) hh rfl rfl rfl rfl (by show 0 ≤ 8; decide)) (fun h2 r2 => ?_)
  rintro ⟨e2, hh2, f2, g2, n2⟩
  rw [e2]
  refine E_al rfl L0 ?_
  refine E_ogr (q := 15) rfl hh2 rfl rfl ?_
  refine E_ogf (q := (0, 20)) rfl hh2 rfl rfl g2 ?_
  exact E_rti rfl ⟨rfl, g2, f2, n2⟩
theorem sp_anew8X {p : Nat} (hh : HH h) (N : ∀ j, j < gn h 15 4 → gn h 17 j = nwF (gn h 21) (gn h 22) (gn h 23) (gn h 16) (gn h 15 6) j) : Sp (d + 3) 79 h [.ref 0] (fun h' r => r = some (.int (anv (gn h 15 0) (gn h 15 6))) ∧ gi h' 15 6 = nJ (ana (gn h 15 0) (gn h 15 6)) ∧ fr_g KAF h h' ∧ (∀ j, j < gn h 15 4 → gn h' 17 j = nwF (gn h 21) (gn h 22) (gn h 23) (gn h 16) (ana (gn h 15 0) (gn h 15 6)) j)) := by
  obtain ⟨a1, a2, a3, a4, a5, a6⟩ := g15 hh
  refine Sp_of aiX8_anew rfl rfl rfl ?_
  have L0 : pm_get (lv_args 0 [.ref 0]) 0 = some (.ref 0) := rfl
  generalize lv_args 0 [.ref 0] = lv at L0 ⊢
  unfold anv ana
  refine E_al rfl L0 ?_
  refine E_call rfl (Sp_le (by omega) (sp_hasStreet8 (d := d) hh)) (chkO (a := 0) hh rfl rfl rfl rfl (by show 0 ≤ 8; decide)) (fun h1 r1 => ?_)
  rintro ⟨e1, f1⟩
  rw [e1, f1]
  by_cases b : gn h 15 0 = 0
  · refine E_ifF rfl (by rw [zb_F (by omega)]; rfl) ?_
    refine E_c rfl ?_
    exact E_rti rfl ⟨by rw [if_pos b], by rw [if_pos b]; exact a5, fr_rf _ _, by rw [if_pos b]; exact N⟩
  refine E_ifT rfl (by rw [zb_T (by omega)]; rfl) ?_
  rw [if_neg b, if_neg b]
  refine E_al rfl L0 ?_
  refine E_ogr (q := 15) rfl hh rfl rfl ?_
  refine E_ogf (q := (0, 20)) rfl hh rfl rfl a5 ?_
  refine E_is rfl (fun lv1 K1 kp => ?_)
  refine E_al rfl (kp 0 _ (by decide) rfl L0) ?_
  refine E_ogr (q := 15) rfl hh rfl rfl ?_
  refine E_ci 0 rfl (by decide) ?_
  refine E_call rfl (sp_keepActsX (d := d) (a := 0) (p := p) hh (by omega) (fun i hi => absurd hi (Nat.not_lt_zero i))) (chkO (a := 15) hh rfl rfl rfl rfl (by show 0 ≤ 8; decide)) (fun h2 r2 => ?_)
  rintro ⟨e2, hh2, f2, g2, n2⟩
  rw [e2]
  refine E_il rfl K1 ?_
  exact E_rti rfl ⟨rfl, g2, f2, n2⟩
/-- an act more -/
noncomputable def ADD (h h' : pm_H) (a c z t : Nat) : Prop := gi h' 15 6 = nJ (a + 1) ∧ gn h' 21 = fup (gn h 21) a c ∧ gn h' 22 = fup (gn h 22) a z ∧ gn h' 23 = fup (gn h 23) a t ∧ gn h' 17 = dAct (fup (gn h 21) a c) (fup (gn h 22) a z) (fup (gn h 23) a t) a (gn h 17)
noncomputable def NOA (h h' : pm_H) : Prop := gi h' 15 6 = gi h 15 6 ∧ gn h' 21 = gn h 21 ∧ gn h' 22 = gn h 22 ∧ gn h' 23 = gn h 23 ∧ gn h' 17 = gn h 17
noncomputable def WX (ok : Bool) (h h' : pm_H) (a c z t : Nat) : Prop := (ok = true ∧ a < 20 → ADD h h' a c z t) ∧ (¬ (ok = true ∧ a < 20) → NOA h h')
theorem NOA_rf : NOA h h := ⟨rfl, rfl, rfl, rfl, rfl⟩
theorem WX_no {ok : Bool} {a c z t : Nat} (e : ¬ (ok = true ∧ a < 20)) : WX ok h h a c z t := ⟨fun q => absurd q e, fun _ => NOA_rf⟩
theorem sp_addActX {c z t a : Nat} (hh : HH h) (c7 : c ≤ 7) (z8 : z ≤ 8) (t1 : t ≤ 1) (hz : t ≠ 0 → z ≤ 7) (g6 : gi h 15 6 = nJ a) (a20 : a < 20) : Sp (d + 2) 47 h [.ref 15, .int (nJ c), .int (nJ z), .int (nJ t)] (fun h' r => r = none ∧ HH h' ∧ fr_g AAF h h' ∧ ADD h h' a c z t) := by
  refine Sp_of aiX5_addAct rfl rfl rfl ?_
  have L0 : pm_get (lv_args 0 [.ref 15, .int (nJ c), .int (nJ z), .int (nJ t)]) 0 = some (.ref 15) := rfl
  have L1 : pm_get (lv_args 0 [.ref 15, .int (nJ c), .int (nJ z), .int (nJ t)]) 1 = some (.int (nJ c)) := rfl
  have L2 : pm_get (lv_args 0 [.ref 15, .int (nJ c), .int (nJ z), .int (nJ t)]) 2 = some (.int (nJ z)) := rfl
  have L3 : pm_get (lv_args 0 [.ref 15, .int (nJ c), .int (nJ z), .int (nJ t)]) 3 = some (.int (nJ t)) := rfl
  generalize lv_args 0 [.ref 15, .int (nJ c), .int (nJ z), .int (nJ t)] = lv at L0 L1 L2 L3 ⊢
  have tt := nJ_toInt (n := t) (by omega)
  refine E_al rfl L0 ?_
  refine E_ogf (q := (0, 20)) rfl hh rfl rfl g6 ?_
  refine E_ci 20 rfl (by decide) ?_
  refine E_icF rfl (decide_eq_false (fun q => absurd ((nJ_le (by omega) (by omega)).mp q) (by omega))) ?_
  have b1 : bd 21 a = some (0, 7) := bd_u rfl a20
  have b2 : bd 22 a = some (0, 8) := bd_u rfl a20
  have b3 : bd 23 a = some (0, 1) := bd_u rfl a20
  have h1 : HH (pt h 21 a (nJ c)) := HH_ptn hh b1 (by omega) (by omega) (by omega)
  have h2 : HH (pt (pt h 21 a (nJ c)) 22 a (nJ z)) := HH_ptn h1 b2 (by omega) (by omega) (by omega)
  have h3 : HH (pt (pt (pt h 21 a (nJ c)) 22 a (nJ z)) 23 a (nJ t)) := HH_ptn h2 b3 (by omega) (by omega) (by omega)
  refine E_al rfl L0 ?_
  refine E_ogr (q := 21) rfl hh rfl rfl ?_
  refine E_al rfl L0 ?_
  refine E_ogf (q := (0, 20)) rfl hh rfl rfl g6 ?_
  refine E_il rfl L1 ?_
  refine E_ias rfl hh rfl a20 (by decide) ?_
  refine E_al rfl L0 ?_
  refine E_ogr (q := 22) rfl h1 rfl rfl ?_
  refine E_al rfl L0 ?_
  refine E_ogf (q := (0, 20)) (v := nJ a) rfl h1 rfl rfl (by rw [gi_ne (by omega)]; exact g6) ?_
  refine E_il rfl L2 ?_
  refine E_ias rfl h1 rfl a20 (by decide) ?_
  refine E_al rfl L0 ?_
  refine E_ogr (q := 23) rfl h2 rfl rfl ?_
  refine E_al rfl L0 ?_
  refine E_ogf (q := (0, 20)) (v := nJ a) rfl h2 rfl rfl (by rw [gi_ne (by omega), gi_ne (by omega)]; exact g6) ?_
  refine E_il rfl L3 ?_
  refine E_zasB rfl h2 rfl a20 (by decide) (nar_z (by omega) (by omega)) ?_
  have g3 : gi (pt (pt (pt h 21 a (nJ c)) 22 a (nJ z)) 23 a (nJ t)) 15 6 = nJ a := by rw [gi_ne (by omega), gi_ne (by omega), gi_ne (by omega)]; exact g6
  have q3 : gi (pt (pt (pt h 21 a (nJ c)) 22 a (nJ z)) 23 a (nJ t)) 23 a = nJ t := gi_ptn h2 b3 (by omega) (by omega) (by omega)
  have q2 : gn (pt (pt (pt h 21 a (nJ c)) 22 a (nJ z)) 23 a (nJ t)) 22 a = z := by rw [gn_ne (by omega)]; exact gn_ptn h1 b2 (by omega) (by omega) (by omega)
  have F3 : fr_g AAF h (pt (pt (pt h 21 a (nJ c)) 22 a (nJ z)) 23 a (nJ t)) := fr_ptr (l := 0) (u := 19) rfl (by omega) (by omega) (fr_ptr (l := 0) (u := 19) rfl (by omega) (by omega) (fr_ptr (l := 0) (u := 19) rfl (by omega) (by omega) (fr_rf _ _)))
  have w1 : gn (pt (pt (pt h 21 a (nJ c)) 22 a (nJ z)) 23 a (nJ t)) 21 = fup (gn h 21) a c := by rw [← gn_fup hh b1 (by omega) (by omega) (by omega)]; funext k; rw [gn_ne (by omega), gn_ne (by omega)]
  have w2 : gn (pt (pt (pt h 21 a (nJ c)) 22 a (nJ z)) 23 a (nJ t)) 22 = fup (gn h 22) a z := by
    have e : gn (pt h 21 a (nJ c)) 22 = gn h 22 := by funext k; exact gn_ne (by omega)
    rw [← e, ← gn_fup h1 b2 (by omega) (by omega) (by omega)]; funext k; rw [gn_ne (by omega)]
  have w3 : gn (pt (pt (pt h 21 a (nJ c)) 22 a (nJ z)) 23 a (nJ t)) 23 = fup (gn h 23) a t := by
    have e : gn (pt (pt h 21 a (nJ c)) 22 a (nJ z)) 23 = gn h 23 := by funext k; rw [gn_ne (by omega), gn_ne (by omega)]
    rw [← e, ← gn_fup h2 b3 (by omega) (by omega) (by omega)]
  have w4 : gn (pt (pt (pt h 21 a (nJ c)) 22 a (nJ z)) 23 a (nJ t)) 17 = gn h 17 := by funext k; rw [gn_ne (by omega), gn_ne (by omega), gn_ne (by omega)]
  generalize pt (pt (pt h 21 a (nJ c)) 22 a (nJ z)) 23 a (nJ t) = g at h3 g3 q3 q2 F3 w1 w2 w3 w4 ⊢
  refine E_al rfl L0 ?_
  refine E_al rfl L0 ?_
  refine E_ogf (q := (0, 20)) rfl h3 rfl rfl g3 ?_
  refine E_call rfl (sp_doActX (d := d) h3 a20 (fun q => by rw [q2]; exact hz (fun e => q (by rw [q3, e]; rfl)))) (chkO (a := 15) h3 rfl rfl rfl rfl (by show 0 ≤ 8; decide)) (fun h5 r5 => ?_)
  rintro ⟨e5, hh5, f5, n5⟩
  rw [w1, w2, w3, w4] at n5
  rw [e5]
  refine E_al rfl L0 ?_
  refine E_dup rfl rfl ?_
  refine E_ogf (q := (0, 20)) (v := nJ a) rfl hh5 rfl rfl (by rw [fr_gi f5 (rg_no rfl _)]; exact g3) ?_
  refine E_ci 1 rfl (by decide) ?_
  refine E_bin rfl (nJ_add _ _) ?_
  refine E_opf (q := (0, 20)) rfl hh5 rfl rfl ?_
  refine E_ret rfl ⟨rfl, HH_ptn hh5 rfl (by omega) (by omega) (by omega), fr_ptr (l := 6) (u := 6) rfl (by omega) (by omega) (fr_trans F3 (fr_wk rfl f5)), gi_ptn hh5 rfl (by omega) (by omega) (by omega), ?_, ?_, ?_, ?_⟩
  · rw [← w1]; funext k; rw [gn_ne (by omega)]; exact fr_gn f5 (rg_no rfl _)
  · rw [← w2]; funext k; rw [gn_ne (by omega)]; exact fr_gn f5 (rg_no rfl _)
  · rw [← w3]; funext k; rw [gn_ne (by omega)]; exact fr_gn f5 (rg_no rfl _)
  · rw [← n5]; funext k; exact gn_ne (by omega)
theorem sp_actLostX {c z t : Nat} (hh : HH h) (c7 : c ≤ 7) (z8 : z ≤ 8) (t1 : t ≤ 1) (hz : t ≠ 0 → z ≤ 7) : Sp (d + 6) 78 h [.ref 0, .int (nJ c), .int (nJ z), .int (nJ t)] (fun h' r => (∃ v : Int32, r = some (.int v)) ∧ WX true h h' (gn h 15 6) c z t) := by
  obtain ⟨a1, a2, a3, a4, a5, a6⟩ := g15 hh
  refine Sp_of aiX8_actAndCountLost rfl rfl rfl ?_
  have L0 : pm_get (lv_args 0 [.ref 0, .int (nJ c), .int (nJ z), .int (nJ t)]) 0 = some (.ref 0) := rfl
  have L1 : pm_get (lv_args 0 [.ref 0, .int (nJ c), .int (nJ z), .int (nJ t)]) 1 = some (.int (nJ c)) := rfl
  have L2 : pm_get (lv_args 0 [.ref 0, .int (nJ c), .int (nJ z), .int (nJ t)]) 2 = some (.int (nJ z)) := rfl
  have L3 : pm_get (lv_args 0 [.ref 0, .int (nJ c), .int (nJ z), .int (nJ t)]) 3 = some (.int (nJ t)) := rfl
  generalize lv_args 0 [.ref 0, .int (nJ c), .int (nJ z), .int (nJ t)] = lv at L0 L1 L2 L3 ⊢
  refine E_al rfl L0 ?_
  refine E_ogr (q := 15) rfl hh rfl rfl ?_
  refine E_ogf (q := (0, 20)) rfl hh rfl rfl a5 ?_
  refine E_ci 20 rfl (by decide) ?_
  by_cases b : gn h 15 6 < 20
  · refine E_icT rfl (decide_eq_true ((nJ_lt (by omega) (by omega)).mpr b)) ?_
    refine E_al rfl L0 ?_
    refine E_ogr (q := 15) rfl hh rfl rfl ?_
    refine E_il rfl L1 ?_
    refine E_il rfl L2 ?_
    refine E_il rfl L3 ?_
    refine E_call rfl (Sp_le (by omega) (sp_addActX (d := d) hh c7 z8 t1 hz a5 b)) (chkO (a := 15) hh rfl rfl rfl rfl (by show 0 ≤ 8; decide)) (fun h1 r1 => ?_)
    rintro ⟨e1, hh1, f1, g1⟩
    rw [e1]
    refine E_al rfl L0 ?_
    refine E_call rfl (Sp_le (by omega) (Sp_sum (as := [.ref 0]) q137 hh1 ⟨rfl, trivial⟩ (fun _ hq => absurd hq List.not_mem_nil) (fun _ hq => absurd hq List.not_mem_nil))) (chkO (a := 0) hh1 rfl rfl rfl rfl (by show 0 ≤ 8; decide)) (fun h2 r2 => ?_)
    rintro ⟨hh2, f2, C2, hC2, -, -, -, rv2⟩
    have e2 : r2 = none := by have e := List.mem_singleton.mp hC2; subst e; cases r2 with | none => rfl | some v => exact rv2.elim
    rw [e2]
    refine E_al rfl L0 ?_
    refine E_ogr (q := 62) rfl hh2 rfl rfl ?_
    refine E_ogf (q := (0, 255)) rfl hh2 rfl rfl rfl ?_
    have bm := (ld_gi hh2 (a := 62) (k := 2) (q := (0, 255)) rfl).2
    refine E_call rfl (Sp_le (by omega) (Sp_sum (as := [.int (gi h2 62 2)]) q607 hh2 ⟨bm, trivial⟩ (fun _ hq => absurd hq List.not_mem_nil) (fun _ hq => absurd hq List.not_mem_nil))) (chkS rfl (by show 0 ≤ 8; decide)) (fun h3 r3 => ?_)
    rintro ⟨hh3, f3, C3, hC3, -, -, -, rv3⟩
    have hC3 : C3 ∈ [([cI 0 255], [], [], some (.inl (cI 2 8))), ([cI 0 255], [], [], some (.inl (cI 1 1))), ([cI 0 255], [], [], some (.inl (cI 0 0)))] := hC3
    obtain ⟨v3, e3⟩ : ∃ x : Int32, r3 = some (.int x) := by
      rcases List.mem_cons.mp hC3 with e | e
      · subst e; exact rv_ci rv3
      · rcases List.mem_cons.mp e with e | e
        · subst e; exact rv_ci rv3
        · have e := List.mem_singleton.mp e; subst e; exact rv_ci rv3
    rw [e3]
    have k3 : ∀ a k, a ≤ 23 → 15 ≤ a → gi h3 a k = gi h1 a k := fun a k ha hb => by
      rw [fr_gi f3 rfl, fr_gi f2 (rg_no ((show ∀ a : Fin 24, 15 ≤ a.val → S137.2.2.2.2.1.all (fun r => !(Nat.beq r.1 a.val)) = true from by decide) ⟨a, by omega⟩ hb) _)]
    have k4 : ∀ a, a ≤ 23 → 15 ≤ a → gn h3 a = gn h1 a := fun a ha hb => by funext k; unfold gn; rw [k3 a k ha hb]
    obtain ⟨w0, w1, w2, w3, w4⟩ := g1
    exact E_rti rfl ⟨⟨_, rfl⟩, fun _ => ⟨by rw [k3 _ _ (by omega) (by omega)]; exact w0, by rw [k4 _ (by omega) (by omega)]; exact w1, by rw [k4 _ (by omega) (by omega)]; exact w2, by rw [k4 _ (by omega) (by omega)]; exact w3, by rw [k4 _ (by omega) (by omega)]; exact w4⟩, fun q => absurd ⟨rfl, b⟩ q⟩
  · refine E_icF rfl (decide_eq_false (fun q => b ((nJ_lt (by omega) (by omega)).mp q))) ?_
    refine E_c rfl ?_
    exact E_rti rfl ⟨⟨_, rfl⟩, WX_no (fun q => b q.2)⟩
theorem sp_wants8X (hh : HH h) : Sp (d + 7) 198 h [.ref 0, .int x, .int y] (fun h' r => (∃ v : Int32, r = some (.int v)) ∧ WX (okW (gn h 15 4) (gn h 15 0) x y) h h' (gn h 15 6) x.toInt.toNat y.toInt.toNat 0) := by
  obtain ⟨a1, a2, a3, a4, a5, a6⟩ := g15 hh
  refine Sp_of aiX8_wants rfl rfl rfl ?_
  have L0 : pm_get (lv_args 0 [.ref 0, .int x, .int y]) 0 = some (.ref 0) := rfl
  have L1 : pm_get (lv_args 0 [.ref 0, .int x, .int y]) 1 = some (.int x) := rfl
  have L2 : pm_get (lv_args 0 [.ref 0, .int x, .int y]) 2 = some (.int y) := rfl
  generalize lv_args 0 [.ref 0, .int x, .int y] = lv at L0 L1 L2 ⊢
  have no : ¬ ((0 ≤ x.toInt ∧ x.toInt < (gn h 15 4 : Int)) ∧ 1 ≤ y.toInt ∧ y.toInt ≤ (gn h 15 0 : Int)) → Ends (pm_at tX8_wants) (pm_Rt pm_P (d + 6)) (16, lv, [], h, 0, 0) (fun h' r => (∃ v : Int32, r = some (.int v)) ∧ WX (okW (gn h 15 4) (gn h 15 0) x y) h h' (gn h 15 6) x.toInt.toNat y.toInt.toNat 0) := by
    intro q
    refine E_c rfl ?_
    exact E_rti rfl ⟨⟨_, rfl⟩, WX_no (fun z => q (of_decide_eq_true z.1))⟩
  refine E_al rfl L0 ?_
  refine E_il rfl L1 ?_
  refine E_call rfl (Sp_le (by omega) (sp_hasCar8 (d := d) hh)) (chkO (a := 0) hh rfl rfl rfl rfl (by show 0 ≤ 8; decide)) (fun h1 r1 => ?_)
  rintro ⟨e1, f1⟩
  rw [e1, f1]
  by_cases b1 : 0 ≤ x.toInt ∧ x.toInt < (gn h 15 4 : Int)
  · refine E_ifF rfl (by rw [zb_T b1]; rfl) ?_
    refine E_al rfl L0 ?_
    refine E_il rfl L2 ?_
    refine E_call rfl (Sp_le (by omega) (sp_hasPlace8 (d := d) hh)) (chkO (a := 0) hh rfl rfl rfl rfl (by show 0 ≤ 8; decide)) (fun h2 r2 => ?_)
    rintro ⟨e2, f2⟩
    rw [e2, f2]
    by_cases b2 : 1 ≤ y.toInt ∧ y.toInt ≤ (gn h 15 0 : Int)
    · refine E_ifT rfl (by rw [zb_T b2]; rfl) ?_
      have ok : okW (gn h 15 4) (gn h 15 0) x y = true := decide_eq_true ⟨b1, b2⟩
      rw [ok]
      obtain ⟨c, hc, rfl⟩ : ∃ c, c ≤ 7 ∧ x = nJ c := ⟨x.toInt.toNat, by omega, nJ_of b1.1⟩
      obtain ⟨z, hz, rfl⟩ : ∃ c, c ≤ 8 ∧ y = nJ c := ⟨y.toInt.toNat, by omega, nJ_of (by omega)⟩
      refine E_al rfl L0 ?_
      refine E_il rfl L1 ?_
      refine E_il rfl L2 ?_
      refine E_ci 0 rfl (by decide) ?_
      refine E_call rfl (sp_actLostX (d := d) (t := 0) hh hc hz (by omega) (fun q => absurd rfl q)) (chkO (a := 0) hh rfl rfl rfl rfl (by show 0 ≤ 8; decide)) (fun h3 r3 => ?_)
      rintro ⟨⟨v, e3⟩, g3⟩
      rw [e3]
      exact E_rti rfl ⟨⟨_, rfl⟩, by rw [nJ_toInt (by omega), nJ_toInt (by omega)]; exact g3⟩
    · refine E_ifF rfl (by rw [zb_F b2]; rfl) ?_
      exact no (fun q => b2 q.2)
  · refine E_ifT rfl (by rw [zb_F b1]; rfl) ?_
    exact no (fun q => b1 q.1)
theorem sp_trades8X (hh : HH h) : Sp (d + 7) 191 h [.ref 0, .int x, .int y] (fun h' r => (∃ v : Int32, r = some (.int v)) ∧ WX (okT (gn h 15 4) x y) h h' (gn h 15 6) x.toInt.toNat y.toInt.toNat 1) := by
  obtain ⟨a1, a2, a3, a4, a5, a6⟩ := g15 hh
  refine Sp_of aiX8_trades rfl rfl rfl ?_
  have L0 : pm_get (lv_args 0 [.ref 0, .int x, .int y]) 0 = some (.ref 0) := rfl
  have L1 : pm_get (lv_args 0 [.ref 0, .int x, .int y]) 1 = some (.int x) := rfl
  have L2 : pm_get (lv_args 0 [.ref 0, .int x, .int y]) 2 = some (.int y) := rfl
  generalize lv_args 0 [.ref 0, .int x, .int y] = lv at L0 L1 L2 ⊢
  refine E_al rfl L0 ?_
  refine E_il rfl L1 ?_
  refine E_il rfl L2 ?_
  refine E_call rfl (Sp_le (by omega) (sp_hasPair8 (d := d) hh)) (chkO (a := 0) hh rfl rfl rfl rfl (by show 0 ≤ 8; decide)) (fun h1 r1 => ?_)
  rintro ⟨e1, f1⟩
  rw [e1, f1]
  by_cases b : (0 ≤ x.toInt ∧ x.toInt < (gn h 15 4 : Int)) ∧ (0 ≤ y.toInt ∧ y.toInt < (gn h 15 4 : Int)) ∧ ¬ x = y
  · refine E_ifT rfl (by rw [zb_T b]; rfl) ?_
    have ok : okT (gn h 15 4) x y = true := decide_eq_true b
    rw [ok]
    obtain ⟨b1, b2, -⟩ := b
    obtain ⟨c, hc, rfl⟩ : ∃ c, c ≤ 7 ∧ x = nJ c := ⟨x.toInt.toNat, by omega, nJ_of b1.1⟩
    obtain ⟨z, hz, rfl⟩ : ∃ c, c ≤ 7 ∧ y = nJ c := ⟨y.toInt.toNat, by omega, nJ_of (by omega)⟩
    refine E_al rfl L0 ?_
    refine E_il rfl L1 ?_
    refine E_il rfl L2 ?_
    refine E_ci 1 rfl (by decide) ?_
    refine E_call rfl (sp_actLostX (d := d) (t := 1) hh hc (by omega) (by omega) (fun _ => hz)) (chkO (a := 0) hh rfl rfl rfl rfl (by show 0 ≤ 8; decide)) (fun h3 r3 => ?_)
    rintro ⟨⟨v, e3⟩, g3⟩
    rw [e3]
    exact E_rti rfl ⟨⟨_, rfl⟩, by rw [nJ_toInt (by omega), nJ_toInt (by omega)]; exact g3⟩
  · refine E_ifF rfl (by rw [zb_F b]; rfl) ?_
    refine E_c rfl ?_
    exact E_rti rfl ⟨⟨_, rfl⟩, WX_no (fun z => b (of_decide_eq_true z.1))⟩
end AX8
