/-! undo, anew, rate, wants, trades: what they do to the numbers that are counted (wants t52 for E_zasB) -/
section AC8
variable {h : pm_H} {d : Nat} {x y : Int32}
theorem g15 (hh : HH h) : gi h 15 0 = nJ (gn h 15 0) ∧ gn h 15 0 ≤ 8 ∧ gi h 15 4 = nJ (gn h 15 4) ∧ gn h 15 4 ≤ 8 ∧ gi h 15 6 = nJ (gn h 15 6) ∧ gn h 15 6 ≤ 20 := ⟨gi_gn hh rfl (by decide), gn_hi hh rfl (by decide), gi_gn hh rfl (by decide), gn_hi hh rfl (by decide), gi_gn hh rfl (by decide), gn_hi hh rfl (by decide)⟩
theorem sp_hasStreet8 (hh : HH h) : Sp (d + 1) 118 h [.ref 0] (fun h' r => h' = h ∧ r = some (.int (zb (0 < gn h 15 0)))) := by
  obtain ⟨a1, a2, -⟩ := g15 hh
  refine Sp_of aiX8_hasStreet rfl rfl rfl ?_
  have L0 : pm_get (lv_args 0 [.ref 0]) 0 = some (.ref 0) := rfl
  generalize lv_args 0 [.ref 0] = lv at L0 ⊢
  refine E_al rfl L0 ?_
  refine E_ogr (q := 15) rfl hh rfl rfl ?_
  refine E_ogf (q := (0, 8)) rfl hh rfl rfl a1 ?_
  by_cases b : gn h 15 0 = 0
  · refine E_ifT rfl (decide_eq_true ((nJ_le0 (by omega)).mpr b)) ?_
    refine E_ci 0 rfl (by decide) ?_
    exact E_rtz rfl (.inl rfl) ⟨rfl, by rw [zb_F (by omega)]⟩
  · refine E_ifF rfl (decide_eq_false (fun z => b ((nJ_le0 (by omega)).mp z))) ?_
    refine E_ci 1 rfl (by decide) ?_
    refine E_goto rfl ?_
    exact E_rtz rfl (.inr rfl) ⟨rfl, by rw [zb_T (by omega)]⟩
theorem sp_hasCar8 (hh : HH h) : Sp (d + 1) 114 h [.ref 0, .int x] (fun h' r => h' = h ∧ r = some (.int (zb (0 ≤ x.toInt ∧ x.toInt < (gn h 15 4 : Int))))) := by
  obtain ⟨-, -, a3, a4, -⟩ := g15 hh
  have z0 : (0 : Int32).toInt = 0 := rfl
  refine Sp_of aiX8_hasCar rfl rfl rfl ?_
  have L0 : pm_get (lv_args 0 [.ref 0, .int x]) 0 = some (.ref 0) := rfl
  have L1 : pm_get (lv_args 0 [.ref 0, .int x]) 1 = some (.int x) := rfl
  generalize lv_args 0 [.ref 0, .int x] = lv at L0 L1 ⊢
  refine E_il rfl L1 ?_
  by_cases b1 : x < 0
  · have q := Int32.lt_iff_toInt_lt.mp b1
    refine E_ifT rfl (decide_eq_true b1) ?_
    refine E_ci 0 rfl (by decide) ?_
    exact E_rtz rfl (.inl rfl) ⟨rfl, by rw [zb_F (by omega)]⟩
  have q1 : ¬ x.toInt < (0 : Int32).toInt := fun z => b1 (Int32.lt_iff_toInt_lt.mpr z)
  refine E_ifF rfl (decide_eq_false b1) ?_
  refine E_il rfl L1 ?_
  refine E_al rfl L0 ?_
  refine E_ogr (q := 15) rfl hh rfl rfl ?_
  refine E_ogf (q := (0, 8)) rfl hh rfl rfl a3 ?_
  by_cases b2 : nJ (gn h 15 4) ≤ x
  · have q := Int32.le_iff_toInt_le.mp b2
    rw [nJ_toInt (by omega)] at q
    refine E_icT rfl (decide_eq_true b2) ?_
    refine E_ci 0 rfl (by decide) ?_
    exact E_rtz rfl (.inl rfl) ⟨rfl, by rw [zb_F (by omega)]⟩
  · have q : ¬ (nJ (gn h 15 4)).toInt ≤ x.toInt := fun z => b2 (Int32.le_iff_toInt_le.mpr z)
    rw [nJ_toInt (by omega)] at q
    refine E_icF rfl (decide_eq_false b2) ?_
    refine E_ci 1 rfl (by decide) ?_
    refine E_goto rfl ?_
    exact E_rtz rfl (.inr rfl) ⟨rfl, by rw [zb_T (by omega)]⟩
theorem sp_hasPlace8 (hh : HH h) : Sp (d + 1) 117 h [.ref 0, .int x] (fun h' r => h' = h ∧ r = some (.int (zb (1 ≤ x.toInt ∧ x.toInt ≤ (gn h 15 0 : Int))))) := by
  obtain ⟨a3, a4, -⟩ := g15 hh
  have z0 : (1 : Int32).toInt = 1 := rfl
  refine Sp_of aiX8_hasPlace rfl rfl rfl ?_
  have L0 : pm_get (lv_args 0 [.ref 0, .int x]) 0 = some (.ref 0) := rfl
  have L1 : pm_get (lv_args 0 [.ref 0, .int x]) 1 = some (.int x) := rfl
  generalize lv_args 0 [.ref 0, .int x] = lv at L0 L1 ⊢
  refine E_il rfl L1 ?_
  refine E_c rfl ?_
  by_cases b1 : x < 1
  · have q := Int32.lt_iff_toInt_lt.mp b1
    refine E_icT rfl (decide_eq_true b1) ?_
    refine E_ci 0 rfl (by decide) ?_
    exact E_rtz rfl (.inl rfl) ⟨rfl, by rw [zb_F (by omega)]⟩
  have q1 : ¬ x.toInt < (1 : Int32).toInt := fun z => b1 (Int32.lt_iff_toInt_lt.mpr z)
  refine E_icF rfl (decide_eq_false b1) ?_
  refine E_il rfl L1 ?_
  refine E_al rfl L0 ?_
  refine E_ogr (q := 15) rfl hh rfl rfl ?_
  refine E_ogf (q := (0, 8)) rfl hh rfl rfl a3 ?_
  by_cases b2 : nJ (gn h 15 0) < x
  · have q := Int32.lt_iff_toInt_lt.mp b2
    rw [nJ_toInt (by omega)] at q
    refine E_icT rfl (decide_eq_true b2) ?_
    refine E_ci 0 rfl (by decide) ?_
    exact E_rtz rfl (.inl rfl) ⟨rfl, by rw [zb_F (by omega)]⟩
  · have q : ¬ (nJ (gn h 15 0)).toInt < x.toInt := fun z => b2 (Int32.lt_iff_toInt_lt.mpr z)
    rw [nJ_toInt (by omega)] at q
    refine E_icF rfl (decide_eq_false b2) ?_
    refine E_ci 1 rfl (by decide) ?_
    refine E_goto rfl ?_
    exact E_rtz rfl (.inr rfl) ⟨rfl, by rw [zb_T (by omega)]⟩
theorem sp_hasPair8 (hh : HH h) : Sp (d + 2) 116 h [.ref 0, .int x, .int y] (fun h' r => h' = h ∧ r = some (.int (zb ((0 ≤ x.toInt ∧ x.toInt < (gn h 15 4 : Int)) ∧ (0 ≤ y.toInt ∧ y.toInt < (gn h 15 4 : Int)) ∧ ¬ x = y)))) := by
  refine Sp_of aiX8_hasPair rfl rfl rfl ?_
  have L0 : pm_get (lv_args 0 [.ref 0, .int x, .int y]) 0 = some (.ref 0) := rfl
  have L1 : pm_get (lv_args 0 [.ref 0, .int x, .int y]) 1 = some (.int x) := rfl
  have L2 : pm_get (lv_args 0 [.ref 0, .int x, .int y]) 2 = some (.int y) := rfl
  generalize lv_args 0 [.ref 0, .int x, .int y] = lv at L0 L1 L2 ⊢
  have no : ¬ ((0 ≤ x.toInt ∧ x.toInt < (gn h 15 4 : Int)) ∧ (0 ≤ y.toInt ∧ y.toInt < (gn h 15 4 : Int)) ∧ ¬ x = y) → Ends (pm_at tX8_hasPair) (pm_Rt pm_P (d + 1)) (25, lv, [], h, 0, 0) (fun h' r => h' = h ∧ r = some (.int (zb ((0 ≤ x.toInt ∧ x.toInt < (gn h 15 4 : Int)) ∧ (0 ≤ y.toInt ∧ y.toInt < (gn h 15 4 : Int)) ∧ ¬ x = y)))) := by
    intro q
    refine E_ci 0 rfl (by decide) ?_
    exact E_rtz rfl (.inl rfl) ⟨rfl, by rw [zb_F q]⟩
  refine E_al rfl L0 ?_
  refine E_il rfl L1 ?_
  refine E_call rfl (sp_hasCar8 (d := d) hh) (chkO (a := 0) hh rfl rfl rfl rfl (by show 0 ≤ 8; decide)) (fun h1 r1 => ?_)
  rintro ⟨e1, f1⟩
  rw [e1, f1]
  by_cases b1 : 0 ≤ x.toInt ∧ x.toInt < (gn h 15 4 : Int)
  · refine E_ifF rfl (by rw [zb_T b1]; rfl) ?_
    refine E_al rfl L0 ?_
    refine E_il rfl L2 ?_
    refine E_call rfl (sp_hasCar8 (d := d) hh) (chkO (a := 0) hh rfl rfl rfl rfl (by show 0 ≤ 8; decide)) (fun h2 r2 => ?_)
    rintro ⟨e2, f2⟩
    rw [e2, f2]
    by_cases b2 : 0 ≤ y.toInt ∧ y.toInt < (gn h 15 4 : Int)
    · refine E_ifF rfl (by rw [zb_T b2]; rfl) ?_
      refine E_il rfl L1 ?_
      refine E_il rfl L2 ?_
      by_cases b3 : x = y
      · refine E_icT rfl (decide_eq_true b3) ?_
        exact no (fun q => q.2.2 b3)
      · refine E_icF rfl (decide_eq_false b3) ?_
        refine E_ci 1 rfl (by decide) ?_
        refine E_goto rfl ?_
        exact E_rtz rfl (.inr rfl) ⟨rfl, by rw [zb_T ⟨b1, b2, b3⟩]⟩
    · refine E_ifT rfl (by rw [zb_F b2]; rfl) ?_
      exact no (fun q => b2 q.2.1)
  · refine E_ifT rfl (by rw [zb_F b1]; rfl) ?_
    exact no (fun q => b1 q.1)
/-- an act done -/
theorem sp_doAct {i : Nat} (hh : HH h) (hi : i < 20) (hx : ¬ gi h 23 i = 0 → gn h 22 i ≤ 7) : Sp (d + 1) 51 h [.ref 15, .int (nJ i)] (fun h' r => r = none ∧ HH h' ∧ fr_g [(17, 0, 7)] h h') := by
  have c1 : gi h 21 i = nJ (gn h 21 i) := gi_gn hh (bd_u rfl hi) (by decide)
  have c2 : gn h 21 i ≤ 7 := gn_hi hh (bd_u rfl hi) (by decide)
  have x1 : gi h 22 i = nJ (gn h 22 i) := gi_gn hh (bd_u rfl hi) (by decide)
  have x2 : gn h 22 i ≤ 8 := gn_hi hh (bd_u rfl hi) (by decide)
  refine Sp_of aiX5_doAct rfl rfl rfl ?_
  have L0 : pm_get (lv_args 0 [.ref 15, .int (nJ i)]) 0 = some (.ref 15) := rfl
  have L1 : pm_get (lv_args 0 [.ref 15, .int (nJ i)]) 1 = some (.int (nJ i)) := rfl
  generalize lv_args 0 [.ref 15, .int (nJ i)] = lv at L0 L1 ⊢
  refine E_al rfl L0 ?_
  refine E_ogr (q := 21) rfl hh rfl rfl ?_
  refine E_il rfl L1 ?_
  refine E_ial rfl hh rfl hi (by decide) c1 ?_
  refine E_is rfl (fun lv1 K2 kp1 => ?_)
  refine E_al rfl (kp1 0 _ (by decide) rfl L0) ?_
  refine E_ogr (q := 22) rfl hh rfl rfl ?_
  refine E_il rfl (kp1 1 _ (by decide) rfl L1) ?_
  refine E_ial rfl hh rfl hi (by decide) x1 ?_
  refine E_is rfl (fun lv2 K3 kp2 => ?_)
  have M0 := kp2 0 _ (by decide) rfl (kp1 0 _ (by decide) rfl L0)
  have M1 := kp2 1 _ (by decide) rfl (kp1 1 _ (by decide) rfl L1)
  have M2 := kp2 2 _ (by decide) rfl K2
  refine E_al rfl M0 ?_
  refine E_ogr (q := 23) rfl hh rfl rfl ?_
  refine E_il rfl M1 ?_
  refine E_zalB rfl hh rfl hi (by decide) rfl ?_
  have b17 : ∀ k, k ≤ 7 → bd 17 k = some (0, 8) := fun k hk => bd_u rfl (by omega)
  by_cases b : gi h 23 i = 0
  · refine E_ifT rfl (decide_eq_true b) ?_
    refine E_al rfl M0 ?_
    refine E_ogr (q := 17) rfl hh rfl rfl ?_
    refine E_il rfl M2 ?_
    refine E_il rfl K3 ?_
    refine E_ias rfl hh rfl (by omega) (by decide) ?_
    exact E_ret rfl ⟨rfl, HH_ptn hh (b17 _ c2) (by omega) (by omega) (by omega), fr_ptr (l := 0) (u := 7) rfl (by omega) (by omega) (fr_rf _ _)⟩
  · have x7 := hx b
    refine E_ifF rfl (decide_eq_false b) ?_
    have n1 : gi h 17 (gn h 21 i) = nJ (gn h 17 (gn h 21 i)) := gi_gn hh (b17 _ c2) (by decide)
    have n2 : gn h 17 (gn h 21 i) ≤ 8 := gn_hi hh (b17 _ c2) (by decide)
    have n3 : gi h 17 (gn h 22 i) = nJ (gn h 17 (gn h 22 i)) := gi_gn hh (b17 _ x7) (by decide)
    have n4 : gn h 17 (gn h 22 i) ≤ 8 := gn_hi hh (b17 _ x7) (by decide)
    refine E_al rfl M0 ?_
    refine E_ogr (q := 17) rfl hh rfl rfl ?_
    refine E_il rfl M2 ?_
    refine E_ial rfl hh rfl (by omega) (by decide) n1 ?_
    refine E_is rfl (fun lv3 K4 kp3 => ?_)
    have N0 := kp3 0 _ (by decide) rfl M0
    have N2 := kp3 2 _ (by decide) rfl M2
    have N3 := kp3 3 _ (by decide) rfl K3
    refine E_al rfl N0 ?_
    refine E_ogr (q := 17) rfl hh rfl rfl ?_
    refine E_il rfl N2 ?_
    refine E_al rfl N0 ?_
    refine E_ogr (q := 17) rfl hh rfl rfl ?_
    refine E_il rfl N3 ?_
    refine E_ial rfl hh rfl (by omega) (by decide) n3 ?_
    refine E_ias rfl hh rfl (by omega) (by decide) ?_
    have h1 : HH (pt h 17 (gn h 21 i) (nJ (gn h 17 (gn h 22 i)))) := HH_ptn hh (b17 _ c2) (by omega) (by omega) (by omega)
    refine E_al rfl N0 ?_
    refine E_ogr (q := 17) rfl h1 rfl rfl ?_
    refine E_il rfl N3 ?_
    refine E_il rfl K4 ?_
    refine E_ias rfl h1 rfl (by omega) (by decide) ?_
    refine E_goto rfl ?_
    exact E_ret rfl ⟨rfl, HH_ptn h1 (b17 _ x7) (by omega) (by omega) (by omega), fr_ptr (l := 0) (u := 7) rfl (by omega) (by omega) (fr_ptr (l := 0) (u := 7) rfl (by omega) (by omega) (fr_rf _ _))⟩
noncomputable def KAF : List Rng := [(15, 6, 6), (17, 0, 7)]
theorem ka_two {h0 : pm_H} {a : Nat} (ha : a ≤ 20) (j : Nat) : ∀ {h : pm_H} {i : Nat} (lv : List (Nat × Value)), i + j = a → HH h → fr_g KAF h0 h → gi h 15 6 = nJ a → (∀ i, i < a → ¬ gi h 23 i = 0 → gn h 22 i ≤ 7) → pm_get lv 0 = some (.ref 15) → pm_get lv 2 = some (.int (nJ i)) → Ends (pm_at tX5_keepActs) (pm_Rt pm_P (d + 1)) (35, lv, [], h, 0, 0) (fun h' r => r = none ∧ HH h' ∧ fr_g KAF h0 h' ∧ gi h' 15 6 = nJ a) := by
  induction j with
  | zero =>
    intro h i lv hj hh hf g6 hx L0 L2
    refine E_il rfl L2 ?_
    refine E_al rfl L0 ?_
    refine E_ogf (q := (0, 20)) rfl hh rfl rfl g6 ?_
    refine E_icT rfl (decide_eq_true ((nJ_le (by omega) (by omega)).mpr (by omega))) ?_
    exact E_ret rfl ⟨rfl, hh, hf, g6⟩
  | succ j ih =>
    intro h i lv hj hh hf g6 hx L0 L2
    refine E_il rfl L2 ?_
    refine E_al rfl L0 ?_
    refine E_ogf (q := (0, 20)) rfl hh rfl rfl g6 ?_
    refine E_icF rfl (decide_eq_false (fun q => absurd ((nJ_le (by omega) (by omega)).mp q) (by omega))) ?_
    refine E_al rfl L0 ?_
    refine E_il rfl L2 ?_
    refine E_call rfl (sp_doAct (d := d) hh (by omega) (hx i (by omega))) (chkO (a := 15) hh rfl rfl rfl rfl (by show 0 ≤ 8; decide)) (fun h1 r1 => ?_)
    rintro ⟨e1, hh1, f1⟩
    rw [e1]
    refine E_inc rfl L2 (nJ_inc _) (fun lv1 K2 kp => ?_)
    refine E_goto rfl ?_
    exact ih lv1 (i := i + 1) (by omega) hh1 (fr_trans hf (fr_wk rfl f1)) (by rw [fr_gi f1 (rg_no rfl _)]; exact g6) (fun i hi => by rw [fr_gi f1 (rg_no rfl _), fr_gn f1 (rg_no rfl _)]; exact hx i hi) (kp 0 _ (by decide) rfl L0) K2
theorem ka_one {h0 : pm_H} {a c : Nat} (ha : a ≤ 20) (c8 : c ≤ 8) (j : Nat) : ∀ {h : pm_H} {i : Nat} (lv : List (Nat × Value)), i + j = c → HH h → fr_g KAF h0 h → gi h 15 4 = nJ c → gi h 15 6 = nJ a → (∀ i, i < a → ¬ gi h 23 i = 0 → gn h 22 i ≤ 7) → pm_get lv 0 = some (.ref 15) → pm_get lv 2 = some (.int (nJ i)) → Ends (pm_at tX5_keepActs) (pm_Rt pm_P (d + 1)) (7, lv, [], h, 0, 0) (fun h' r => r = none ∧ HH h' ∧ fr_g KAF h0 h' ∧ gi h' 15 6 = nJ a) := by
  induction j with
  | zero =>
    intro h i lv hj hh hf g4 g6 hx L0 L2
    refine E_il rfl L2 ?_
    refine E_al rfl L0 ?_
    refine E_ogf (q := (0, 8)) rfl hh rfl rfl g4 ?_
    refine E_icT rfl (decide_eq_true ((nJ_le (by omega) (by omega)).mpr (by omega))) ?_
    refine E_ci 0 rfl (by decide) ?_
    refine E_is rfl (fun lv1 K2 kp => ?_)
    exact ka_two ha a (i := 0) lv1 (by omega) hh hf g6 hx (kp 0 _ (by decide) rfl L0) K2
  | succ j ih =>
    intro h i lv hj hh hf g4 g6 hx L0 L2
    refine E_il rfl L2 ?_
    refine E_al rfl L0 ?_
    refine E_ogf (q := (0, 8)) rfl hh rfl rfl g4 ?_
    refine E_icF rfl (decide_eq_false (fun q => absurd ((nJ_le (by omega) (by omega)).mp q) (by omega))) ?_
    have t1 : gi h 16 i = nJ (gn h 16 i) := gi_gn hh (bd_u rfl (by omega)) (by decide)
    have t2 : gn h 16 i ≤ 8 := gn_hi hh (bd_u rfl (by omega)) (by decide)
    refine E_al rfl L0 ?_
    refine E_ogr (q := 17) rfl hh rfl rfl ?_
    refine E_il rfl L2 ?_
    refine E_al rfl L0 ?_
    refine E_ogr (q := 16) rfl hh rfl rfl ?_
    refine E_il rfl L2 ?_
    refine E_ial rfl hh rfl (by omega) (by decide) t1 ?_
    refine E_ias rfl hh rfl (by omega) (by decide) ?_
    have b17 : bd 17 i = some (0, 8) := bd_u rfl (by omega)
    refine E_inc rfl L2 (nJ_inc _) (fun lv1 K2 kp => ?_)
    refine E_goto rfl ?_
    exact ih lv1 (i := i + 1) (by omega) (HH_ptn hh b17 (by omega) (by omega) (by omega)) (fr_ptr (l := 0) (u := 7) rfl (by omega) (by omega) hf) (by rw [gi_ne (by omega)]; exact g4) (by rw [gi_ne (by omega)]; exact g6) (fun i hi => by rw [gi_ne (by omega), gn_ne (by omega)]; exact hx i hi) (kp 0 _ (by decide) rfl L0) K2
theorem sp_keepActs {a : Nat} (hh : HH h) (ha : a ≤ 20) (hx : ∀ i, i < a → ¬ gi h 23 i = 0 → gn h 22 i ≤ 7) : Sp (d + 2) 53 h [.ref 15, .int (nJ a)] (fun h' r => r = none ∧ HH h' ∧ fr_g KAF h h' ∧ gi h' 15 6 = nJ a) := by
  obtain ⟨-, -, a3, a4, -⟩ := g15 hh
  refine Sp_of aiX5_keepActs rfl rfl rfl ?_
  have L0 : pm_get (lv_args 0 [.ref 15, .int (nJ a)]) 0 = some (.ref 15) := rfl
  have L1 : pm_get (lv_args 0 [.ref 15, .int (nJ a)]) 1 = some (.int (nJ a)) := rfl
  generalize lv_args 0 [.ref 15, .int (nJ a)] = lv at L0 L1 ⊢
  refine E_al rfl L0 ?_
  refine E_il rfl L1 ?_
  refine E_opf (q := (0, 20)) rfl hh rfl rfl ?_
  have h1 : HH (pt h 15 6 (nJ a)) := HH_ptn hh rfl (by omega) (by omega) (by omega)
  refine E_ci 0 rfl (by decide) ?_
  refine E_is rfl (fun lv1 K2 kp => ?_)
  exact ka_one (d := d) ha a4 (gn h 15 4) (i := 0) lv1 (by omega) h1 (fr_ptr (l := 6) (u := 6) rfl (by omega) (by omega) (fr_rf _ _)) (by rw [gi_ne (by omega)]; exact a3) (gi_ptn hh rfl (by omega) (by omega) (by omega)) (fun i hi => by rw [gi_ne (by omega), gn_ne (by omega)]; exact hx i hi) (kp 0 _ (by decide) rfl L0) K2
noncomputable def udv (p a : Nat) : Int32 := if p = 0 then -2 else if a = 0 then -5 else nJ (a - 1)
noncomputable def uda (p a : Nat) : Nat := if p = 0 then a else a - 1
noncomputable def anv (p a : Nat) : Int32 := if p = 0 then -2 else nJ a
noncomputable def ana (p a : Nat) : Nat := if p = 0 then a else 0
theorem sp_undo8 (hh : HH h) (hx : ∀ i, i < 20 → ¬ gi h 23 i = 0 → gn h 22 i ≤ 7) : Sp (d + 3) 195 h [.ref 0] (fun h' r => r = some (.int (udv (gn h 15 0) (gn h 15 6))) ∧ gi h' 15 6 = nJ (uda (gn h 15 0) (gn h 15 6))) := by
  obtain ⟨a1, a2, a3, a4, a5, a6⟩ := g15 hh
  refine Sp_of aiX8_undo rfl rfl rfl ?_
  have L0 : pm_get (lv_args 0 [.ref 0]) 0 = some (.ref 0) := rfl
  generalize lv_args 0 [.ref 0] = lv at L0 ⊢
  unfold udv uda
  refine E_al rfl L0 ?_
  refine E_call rfl (Sp_le (by omega) (sp_hasStreet8 (d := d) hh)) (chkO (a := 0) hh rfl rfl rfl rfl (by show 0 ≤ 8; decide)) (fun h1 r1 => ?_)
  rintro ⟨e1, f1⟩
  rw [e1, f1]
  by_cases b : gn h 15 0 = 0
  · refine E_ifF rfl (by rw [zb_F (by omega)]; rfl) ?_
    refine E_c rfl ?_
    exact E_rti rfl ⟨by rw [if_pos b], by rw [if_pos b]; exact a5⟩
  refine E_ifT rfl (by rw [zb_T (by omega)]; rfl) ?_
  rw [if_neg b, if_neg b]
  refine E_al rfl L0 ?_
  refine E_ogr (q := 15) rfl hh rfl rfl ?_
  refine E_ogf (q := (0, 20)) rfl hh rfl rfl a5 ?_
  by_cases b2 : gn h 15 6 = 0
  · refine E_ifF rfl (decide_eq_false (fun q => q ((nJ_eq0 (by omega)).mpr b2))) ?_
    refine E_c rfl ?_
    exact E_rti rfl ⟨by rw [if_pos b2], by rw [a5, b2]⟩
  refine E_ifT rfl (decide_eq_true (fun q => b2 ((nJ_eq0 (by omega)).mp q))) ?_
  rw [if_neg b2]
  refine E_al rfl L0 ?_
  refine E_ogr (q := 15) rfl hh rfl rfl ?_
  refine E_al rfl L0 ?_
  refine E_ogr (q := 15) rfl hh rfl rfl ?_
  refine E_ogf (q := (0, 20)) rfl hh rfl rfl a5 ?_
  refine E_ci 1 rfl (by decide) ?_
  refine E_bin rfl (nJ_sub (by omega)) ?_
  refine E_call rfl (sp_keepActs (d := d) (a := gn h 15 6 - 1) hh (by omega) (fun i hi => hx i (by omega))) (chkO (a := 15) hh rfl rfl rfl rfl (by show 0 ≤ 8; decide)) (fun h2 r2 => ?_)
  rintro ⟨e2, hh2, f2, g2⟩
  rw [e2]
  refine E_al rfl L0 ?_
  refine E_ogr (q := 15) rfl hh2 rfl rfl ?_
  refine E_ogf (q := (0, 20)) rfl hh2 rfl rfl g2 ?_
  exact E_rti rfl ⟨rfl, g2⟩
theorem sp_anew8 (hh : HH h) : Sp (d + 3) 79 h [.ref 0] (fun h' r => r = some (.int (anv (gn h 15 0) (gn h 15 6))) ∧ gi h' 15 6 = nJ (ana (gn h 15 0) (gn h 15 6))) := by
  obtain ⟨a1, a2, a3, a4, a5, a6⟩ := g15 hh
  refine Sp_of aiX8_anew rfl rfl rfl ?_
  have L0 : pm_get (lv_args 0 [.ref 0]) 0 = some (.ref 0) := rfl
  generalize lv_args 0 [.ref 0] = lv at L0 ⊢
  unfold anv ana
  refine E_al rfl L0 ?_
  refine E_call rfl (Sp_le (by omega) (sp_hasStreet8 (d := d) hh)) (chkO (a := 0) hh rfl rfl rfl rfl (by show 0 ≤ 8; decide)) (fun h1 r1 => ?_)
  rintro ⟨e1, f1⟩
  rw [e1, f1]
  by_cases b : gn h 15 0 = 0
  · refine E_ifF rfl (by rw [zb_F (by omega)]; rfl) ?_
    refine E_c rfl ?_
    exact E_rti rfl ⟨by rw [if_pos b], by rw [if_pos b]; exact a5⟩
  refine E_ifT rfl (by rw [zb_T (by omega)]; rfl) ?_
  rw [if_neg b, if_neg b]
  refine E_al rfl L0 ?_
  refine E_ogr (q := 15) rfl hh rfl rfl ?_
  refine E_ogf (q := (0, 20)) rfl hh rfl rfl a5 ?_
  refine E_is rfl (fun lv1 K1 kp => ?_)
  refine E_al rfl (kp 0 _ (by decide) rfl L0) ?_
  refine E_ogr (q := 15) rfl hh rfl rfl ?_
  refine E_ci 0 rfl (by decide) ?_
  refine E_call rfl (sp_keepActs (d := d) (a := 0) hh (by omega) (fun i hi => absurd hi (Nat.not_lt_zero i))) (chkO (a := 15) hh rfl rfl rfl rfl (by show 0 ≤ 8; decide)) (fun h2 r2 => ?_)
  rintro ⟨e2, hh2, f2, g2⟩
  rw [e2]
  refine E_il rfl K1 ?_
  exact E_rti rfl ⟨rfl, g2⟩
/-- what rate answers: c cars, a acts, s where cars stand -/
noncomputable def rtv (c a : Nat) (s : Nat → Int32) (x y : Int32) : Int32 := if (0 ≤ x.toInt ∧ x.toInt < (c : Int)) ∧ 0 ≤ y.toInt ∧ y.toInt ≤ 99 then (if a = 0 then s x.toInt.toNat else -5) else -2
noncomputable def rts (c a : Nat) (s : Nat → Int32) (x y : Int32) (i : Nat) : Int32 := if ((0 ≤ x.toInt ∧ x.toInt < (c : Int)) ∧ 0 ≤ y.toInt ∧ y.toInt ≤ 99) ∧ a = 0 ∧ i = x.toInt.toNat then y else s i
theorem sp_rate8 (hh : HH h) : Sp (d + 2) 164 h [.ref 0, .int x, .int y] (fun h' r => r = some (.int (rtv (gn h 15 4) (gn h 15 6) (gi h 18) x y)) ∧ ∀ i, gi h' 18 i = rts (gn h 15 4) (gn h 15 6) (gi h 18) x y i) := by
  obtain ⟨a1, a2, a3, a4, a5, a6⟩ := g15 hh
  have z0 : (0 : Int32).toInt = 0 := rfl
  refine Sp_of aiX8_rate rfl rfl rfl ?_
  have L0 : pm_get (lv_args 0 [.ref 0, .int x, .int y]) 0 = some (.ref 0) := rfl
  have L1 : pm_get (lv_args 0 [.ref 0, .int x, .int y]) 1 = some (.int x) := rfl
  have L2 : pm_get (lv_args 0 [.ref 0, .int x, .int y]) 2 = some (.int y) := rfl
  generalize lv_args 0 [.ref 0, .int x, .int y] = lv at L0 L1 L2 ⊢
  have no : ¬ ((0 ≤ x.toInt ∧ x.toInt < (gn h 15 4 : Int)) ∧ 0 ≤ y.toInt ∧ y.toInt ≤ 99) → Ends (pm_at tX8_rate) (pm_Rt pm_P (d + 1)) (18, lv, [], h, 0, 0) (fun h' r => r = some (.int (rtv (gn h 15 4) (gn h 15 6) (gi h 18) x y)) ∧ ∀ i, gi h' 18 i = rts (gn h 15 4) (gn h 15 6) (gi h 18) x y i) := by
    intro q
    refine E_c rfl ?_
    exact E_rti rfl ⟨by unfold rtv; rw [if_neg q], fun i => by unfold rts; rw [if_neg (fun z => q z.1)]⟩
  refine E_al rfl L0 ?_
  refine E_il rfl L1 ?_
  refine E_call rfl (sp_hasCar8 (d := d) hh) (chkO (a := 0) hh rfl rfl rfl rfl (by show 0 ≤ 8; decide)) (fun h1 r1 => ?_)
  rintro ⟨e1, f1⟩
  rw [e1, f1]
  by_cases b1 : 0 ≤ x.toInt ∧ x.toInt < (gn h 15 4 : Int)
  · refine E_ifF rfl (by rw [zb_T b1]; rfl) ?_
    obtain ⟨c, hc, rfl⟩ : ∃ c, c < 8 ∧ x = nJ c := ⟨x.toInt.toNat, by omega, nJ_of b1.1⟩
    have xc := nJ_toInt (n := c) (by omega)
    refine E_il rfl L2 ?_
    by_cases b2 : y < 0
    · have q := Int32.lt_iff_toInt_lt.mp b2
      refine E_ifT rfl (decide_eq_true b2) ?_
      exact no (by omega)
    have q2 : ¬ y.toInt < (0 : Int32).toInt := fun z => b2 (Int32.lt_iff_toInt_lt.mpr z)
    refine E_ifF rfl (decide_eq_false b2) ?_
    refine E_il rfl L2 ?_
    refine E_ci 99 rfl (by decide) ?_
    by_cases b3 : y ≤ nJ 99
    · have q3 := Int32.le_iff_toInt_le.mp b3
      rw [nJ_toInt (by omega)] at q3
      refine E_icT rfl (decide_eq_true b3) ?_
      have ok : (0 ≤ (nJ c).toInt ∧ (nJ c).toInt < (gn h 15 4 : Int)) ∧ 0 ≤ y.toInt ∧ y.toInt ≤ 99 := ⟨b1, by omega, by omega⟩
      refine E_al rfl L0 ?_
      refine E_ogr (q := 15) rfl hh rfl rfl ?_
      refine E_ogf (q := (0, 20)) rfl hh rfl rfl a5 ?_
      by_cases b4 : gn h 15 6 = 0
      · refine E_ifT rfl (decide_eq_true ((nJ_eq0 (by omega)).mpr b4)) ?_
        refine E_al rfl L0 ?_
        refine E_ogr (q := 15) rfl hh rfl rfl ?_
        refine E_ogr (q := 18) rfl hh rfl rfl ?_
        refine E_il rfl L1 ?_
        refine E_ial rfl hh rfl hc (by decide) rfl ?_
        refine E_is rfl (fun lv1 K3 kp => ?_)
        refine E_al rfl (kp 0 _ (by decide) rfl L0) ?_
        refine E_ogr (q := 15) rfl hh rfl rfl ?_
        refine E_ogr (q := 18) rfl hh rfl rfl ?_
        refine E_il rfl (kp 1 _ (by decide) rfl L1) ?_
        refine E_il rfl (kp 2 _ (by decide) rfl L2) ?_
        refine E_ias rfl hh rfl hc (by decide) ?_
        refine E_il rfl K3 ?_
        have ec : (nJ c).toInt.toNat = c := by omega
        have b18 : bd 18 c = some (0, 99) := bd_u rfl hc
        refine E_rti rfl ⟨by unfold rtv; rw [if_pos ok, if_pos b4, ec], fun i => ?_⟩
        unfold rts
        rw [ec]
        by_cases e : i = c
        · rw [if_pos ⟨ok, b4, e⟩, e]
          exact gi_pt hh b18 (by show (0 : Int) ≤ _; omega) (by show _ ≤ (99 : Int); omega)
        · rw [if_neg (fun z => e z.2.2)]
          exact gi_ne (fun _ => e)
      · refine E_ifF rfl (decide_eq_false (fun z => b4 ((nJ_eq0 (by omega)).mp z))) ?_
        refine E_c rfl ?_
        exact E_rti rfl ⟨by unfold rtv; rw [if_pos ok, if_neg b4], fun i => by unfold rts; rw [if_neg (fun z => b4 z.2.1)]⟩
    · have q3 : ¬ y.toInt ≤ (nJ 99).toInt := fun z => b3 (Int32.le_iff_toInt_le.mpr z)
      rw [nJ_toInt (by omega)] at q3
      refine E_icF rfl (decide_eq_false b3) ?_
      exact no (by omega)
  · refine E_ifT rfl (by rw [zb_F b1]; rfl) ?_
    exact no (fun q => b1 q.1)
end AC8
