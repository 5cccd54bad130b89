section
noncomputable def lnp (h : pm_H) : Nat := if 0 < (gi h 83 0).toInt then 1 else 0
section AC9
variable {h : pm_H} {d : Nat} {x y : Int32}
theorem g84 (hh : HH h) : gi h 84 5 = nJ (gn h 84 5) ∧ gn h 84 5 ≤ 20 ∧ gn h 84 3 ≤ 8 ∧ gn h 84 0 ≤ 8 := ⟨gi_gn hh rfl (by decide), gn_hi hh rfl (by decide), gn_hi hh rfl (by decide), gn_hi hh rfl (by decide)⟩
theorem sp_undo9 (hh : HH h) : Sp (d + 2) 366 h [.ref 77] (fun h' r => r = some (.int (udv (lnp h) (gn h 84 5))) ∧ HH h' ∧ fr_g [(77, 0, 0), (84, 5, 5)] h h' ∧ gi h' 84 5 = nJ (uda (lnp h) (gn h 84 5))) := by
  obtain ⟨a5, a6, -⟩ := g84 hh
  refine Sp_of aiX9_undo rfl rfl rfl ?_
  have L0 : pm_get (lv_args 0 [.ref 77]) 0 = some (.ref 77) := rfl
  generalize lv_args 0 [.ref 77] = lv at L0 ⊢
  refine E_al rfl L0 ?_
  refine E_ci 0 rfl (by decide) ?_
  refine E_pf rfl hh rfl ?_
  have hg : HH (pt h 77 0 (nJ 0)) := HH_ptn hh rfl (by omega) (by omega) (by omega)
  have F : fr_g [(77, 0, 0), (84, 5, 5)] h (pt h 77 0 (nJ 0)) := fr_ptr (l := 0) (u := 0) rfl (by omega) (by omega) (fr_rf _ _)
  have g5 : gi (pt h 77 0 (nJ 0)) 84 5 = nJ (gn h 84 5) := by rw [gi_ne (by omega)]; exact a5
  have g83 : gi (pt h 77 0 (nJ 0)) 83 0 = gi h 83 0 := gi_ne (by omega)
  generalize pt h 77 0 (nJ 0) = g at hg F g5 g83 ⊢
  unfold udv uda lnp
  refine E_al rfl L0 ?_
  refine E_call rfl (sp_isStreet (d := d) hg) (chk77 hg rfl rfl (by show 0 ≤ 8; decide)) (fun h1 r1 => ?_)
  rintro ⟨e1, f1⟩
  rw [e1, f1, g83]
  by_cases b : 0 < (gi h 83 0).toInt
  · refine E_ifT rfl (by rw [zb_T b]; rfl) ?_
    rw [if_pos b, if_neg (show ¬ (1 : Nat) = 0 by decide), if_neg (show ¬ (1 : Nat) = 0 by decide)]
    refine E_al rfl L0 ?_
    refine E_gr rfl hg (q := 84) rfl ?_
    refine E_ci 5 rfl (by decide) ?_
    refine E_ial rfl hg rfl (by omega) (by decide) g5 ?_
    by_cases b2 : gn h 84 5 = 0
    · refine E_ifF rfl (decide_eq_false (fun q => q ((nJ_eq0 (by omega)).mpr b2))) ?_
      refine E_c rfl ?_
      exact E_rti rfl ⟨by rw [if_pos b2], hg, F, by rw [g5, b2]⟩
    refine E_ifT rfl (decide_eq_true (fun q => b2 ((nJ_eq0 (by omega)).mp q))) ?_
    rw [if_neg b2]
    refine E_al rfl L0 ?_
    refine E_gr rfl hg (q := 84) rfl ?_
    refine E_ci 5 rfl (by decide) ?_
    refine E_dup2 rfl rfl rfl ?_
    refine E_ial rfl hg rfl (by omega) (by decide) g5 ?_
    refine E_ci 1 rfl (by decide) ?_
    refine E_bin rfl (nJ_sub (by omega)) ?_
    refine E_ias rfl hg rfl (by omega) (by decide) ?_
    have h2 : HH (pt g 84 5 (nJ (gn h 84 5 - 1))) := HH_ptn hg rfl (by omega) (by omega) (by omega)
    have g2 : gi (pt g 84 5 (nJ (gn h 84 5 - 1))) 84 5 = nJ (gn h 84 5 - 1) := gi_ptn hg rfl (by omega) (by omega) (by omega)
    refine E_al rfl L0 ?_
    refine E_gr rfl h2 (q := 84) rfl ?_
    refine E_ci 5 rfl (by decide) ?_
    refine E_ial rfl h2 rfl (by omega) (by decide) g2 ?_
    exact E_rti rfl ⟨rfl, h2, fr_ptr (l := 5) (u := 5) rfl (by omega) (by omega) F, g2⟩
  · refine E_ifF rfl (by rw [zb_F b]; rfl) ?_
    rw [if_neg b, if_pos rfl, if_pos rfl]
    refine E_c rfl ?_
    exact E_rti rfl ⟨rfl, hg, F, g5⟩
theorem sp_anew9 (hh : HH h) : Sp (d + 2) 207 h [.ref 77] (fun h' r => r = some (.int (anv (lnp h) (gn h 84 5))) ∧ HH h' ∧ fr_g [(77, 0, 0), (84, 5, 5)] h h' ∧ gi h' 84 5 = nJ (ana (lnp h) (gn h 84 5))) := by
  obtain ⟨a5, a6, -⟩ := g84 hh
  refine Sp_of aiX9_anew rfl rfl rfl ?_
  have L0 : pm_get (lv_args 0 [.ref 77]) 0 = some (.ref 77) := rfl
  generalize lv_args 0 [.ref 77] = lv at L0 ⊢
  refine E_al rfl L0 ?_
  refine E_ci 0 rfl (by decide) ?_
  refine E_pf rfl hh rfl ?_
  have hg : HH (pt h 77 0 (nJ 0)) := HH_ptn hh rfl (by omega) (by omega) (by omega)
  have F : fr_g [(77, 0, 0), (84, 5, 5)] h (pt h 77 0 (nJ 0)) := fr_ptr (l := 0) (u := 0) rfl (by omega) (by omega) (fr_rf _ _)
  have g5 : gi (pt h 77 0 (nJ 0)) 84 5 = nJ (gn h 84 5) := by rw [gi_ne (by omega)]; exact a5
  have g83 : gi (pt h 77 0 (nJ 0)) 83 0 = gi h 83 0 := gi_ne (by omega)
  generalize pt h 77 0 (nJ 0) = g at hg F g5 g83 ⊢
  unfold anv ana lnp
  refine E_al rfl L0 ?_
  refine E_call rfl (sp_isStreet (d := d) hg) (chk77 hg rfl rfl (by show 0 ≤ 8; decide)) (fun h1 r1 => ?_)
  rintro ⟨e1, f1⟩
  rw [e1, f1, g83]
  by_cases b : 0 < (gi h 83 0).toInt
  · refine E_ifT rfl (by rw [zb_T b]; rfl) ?_
    rw [if_pos b, if_neg (show ¬ (1 : Nat) = 0 by decide), if_neg (show ¬ (1 : Nat) = 0 by decide)]
    refine E_al rfl L0 ?_
    refine E_gr rfl hg (q := 84) rfl ?_
    refine E_ci 5 rfl (by decide) ?_
    refine E_ial rfl hg rfl (by omega) (by decide) g5 ?_
    refine E_is rfl (fun lv1 K1 kp => ?_)
    refine E_al rfl (kp 0 _ (by decide) rfl L0) ?_
    refine E_gr rfl hg (q := 84) rfl ?_
    refine E_ci 5 rfl (by decide) ?_
    refine E_ci 0 rfl (by decide) ?_
    refine E_ias rfl hg rfl (by omega) (by decide) ?_
    have h2 : HH (pt g 84 5 (nJ 0)) := HH_ptn hg rfl (by omega) (by omega) (by omega)
    refine E_il rfl K1 ?_
    exact E_rti rfl ⟨rfl, h2, fr_ptr (l := 5) (u := 5) rfl (by omega) (by omega) F, gi_ptn hg rfl (by omega) (by omega) (by omega)⟩
  · refine E_ifF rfl (by rw [zb_F b]; rfl) ?_
    rw [if_neg b, if_pos rfl, if_pos rfl]
    refine E_c rfl ?_
    exact E_rti rfl ⟨rfl, hg, F, g5⟩
theorem sp_rate9 (hh : HH h) : Sp (d + 3) 329 h [.ref 77, .int x, .int y] (fun h' r => r = some (.int (rtv (gn h 84 3) (gn h 84 5) (fun i => gi h 85 (2 * i + 1)) x y)) ∧ HH h' ∧ fr_g [(77, 0, 0), (85, 1, 15)] h h' ∧ ∀ i, i < 8 → gi h' 85 (2 * i + 1) = rts (gn h 84 3) (gn h 84 5) (fun i => gi h 85 (2 * i + 1)) x y i) := by
  obtain ⟨a5, a6, a3, -⟩ := g84 hh
  refine Sp_of aiX9_rate rfl rfl rfl ?_
  have L0 : pm_get (lv_args 0 [.ref 77, .int x, .int y]) 0 = some (.ref 77) := rfl
  have L1 : pm_get (lv_args 0 [.ref 77, .int x, .int y]) 1 = some (.int x) := rfl
  have L2 : pm_get (lv_args 0 [.ref 77, .int x, .int y]) 2 = some (.int y) := rfl
  generalize lv_args 0 [.ref 77, .int x, .int y] = lv at L0 L1 L2 ⊢
  refine E_al rfl L0 ?_
  refine E_ci 0 rfl (by decide) ?_
  refine E_pf rfl hh rfl ?_
  have hg : HH (pt h 77 0 (nJ 0)) := HH_ptn hh rfl (by omega) (by omega) (by omega)
  have F : fr_g [(77, 0, 0), (85, 1, 15)] h (pt h 77 0 (nJ 0)) := fr_ptr (l := 0) (u := 0) rfl (by omega) (by omega) (fr_rf _ _)
  have g5 : gi (pt h 77 0 (nJ 0)) 84 5 = nJ (gn h 84 5) := by rw [gi_ne (by omega)]; exact a5
  have g3 : gn (pt h 77 0 (nJ 0)) 84 3 = gn h 84 3 := gn_ne (by omega)
  have g85 : ∀ k, gi (pt h 77 0 (nJ 0)) 85 k = gi h 85 k := fun k => gi_ne (by omega)
  generalize pt h 77 0 (nJ 0) = g at hg F g5 g3 g85 ⊢
  have no : ¬ ((0 ≤ x.toInt ∧ x.toInt < (gn h 84 3 : Int)) ∧ 0 ≤ y.toInt ∧ y.toInt ≤ 99) → Ends (pm_at tX9_rate) (pm_Rt pm_P (d + 2)) (26, lv, [], g, 0, 0) (fun h' r => r = some (.int (rtv (gn h 84 3) (gn h 84 5) (fun i => gi h 85 (2 * i + 1)) x y)) ∧ HH h' ∧ fr_g [(77, 0, 0), (85, 1, 15)] h h' ∧ ∀ i, i < 8 → gi h' 85 (2 * i + 1) = rts (gn h 84 3) (gn h 84 5) (fun i => gi h 85 (2 * i + 1)) x y i) := by
    intro q
    refine E_c rfl ?_
    exact E_rti rfl ⟨by unfold rtv; rw [if_neg q], hg, F, fun i _ => by unfold rts; rw [if_neg (fun z => q z.1)]; exact g85 _⟩
  refine E_al rfl L0 ?_
  refine E_il rfl L1 ?_
  refine E_i2l rfl ?_
  refine E_call rfl (sp_isCar (d := d) hg) (chk77 hg rfl rfl (by show 0 ≤ 8; decide)) (fun h1 r1 => ?_)
  rintro ⟨e1, f1⟩
  rw [e1, f1, g3]
  by_cases b1 : 0 ≤ x.toInt ∧ x.toInt ≤ (gn h 84 3 : Int) - 1
  · refine E_ifF rfl (by rw [zb_T b1]; rfl) ?_
    refine E_il rfl L2 ?_
    refine E_i2l rfl ?_
    refine E_c rfl ?_
    refine E_c rfl ?_
    refine E_call rfl (sp_in (a := y.toInt) (b := 0) (c := 99) (i2l_toInt _) rfl rfl) (chkS rfl (by show 0 ≤ 8; decide)) (fun h2 r2 => ?_)
    rintro ⟨e2, f2⟩
    rw [e2, f2]
    by_cases b2 : 0 ≤ y.toInt ∧ y.toInt ≤ 99
    · refine E_ifT rfl (by rw [zb_T b2]; rfl) ?_
      obtain ⟨c, hc, rfl⟩ : ∃ c, c < 8 ∧ x = nJ c := ⟨x.toInt.toNat, by omega, nJ_of b1.1⟩
      have xc := nJ_toInt (n := c) (by omega)
      have ec : (nJ c).toInt.toNat = c := by omega
      have ok : (0 ≤ (nJ c).toInt ∧ (nJ c).toInt < (gn h 84 3 : Int)) ∧ 0 ≤ y.toInt ∧ y.toInt ≤ 99 := ⟨by omega, b2⟩
      refine E_al rfl L0 ?_
      refine E_gr rfl hg (q := 84) rfl ?_
      refine E_ci 5 rfl (by decide) ?_
      refine E_ial rfl hg rfl (by omega) (by decide) g5 ?_
      by_cases b4 : gn h 84 5 = 0
      · refine E_ifT rfl (decide_eq_true ((nJ_le0 (by omega)).mpr b4)) ?_
        refine E_al rfl L0 ?_
        refine E_gr rfl hg (q := 85) rfl ?_
        refine E_ci 2 rfl (by decide) ?_
        refine E_il rfl L1 ?_
        refine E_bin rfl (nJ_mul _ _) ?_
        refine E_ci 1 rfl (by decide) ?_
        refine E_bin rfl (nJ_add _ _) ?_
        refine E_ial rfl hg rfl (by omega) (by decide) (g85 (2 * c + 1)) ?_
        refine E_is rfl (fun lv1 K3 kp => ?_)
        refine E_al rfl (kp 0 _ (by decide) rfl L0) ?_
        refine E_gr rfl hg (q := 85) rfl ?_
        refine E_ci 2 rfl (by decide) ?_
        refine E_il rfl (kp 1 _ (by decide) rfl L1) ?_
        refine E_bin rfl (nJ_mul _ _) ?_
        refine E_ci 1 rfl (by decide) ?_
        refine E_bin rfl (nJ_add _ _) ?_
        refine E_il rfl (kp 2 _ (by decide) rfl L2) ?_
        refine E_ias rfl hg rfl (by omega) (by decide) ?_
        refine E_il rfl K3 ?_
        have b85 : bd 85 (2 * c + 1) = some (0, 99) := bd_85o (by omega) (by omega)
        refine E_rti rfl ⟨by unfold rtv; rw [if_pos ok, if_pos b4, ec], HH_pt hg b85 (by show (0 : Int) ≤ _; omega) (by show _ ≤ (99 : Int); omega), fr_ptr (l := 1) (u := 15) rfl (by omega) (by omega) F, fun i hi => ?_⟩
        unfold rts
        rw [ec]
        by_cases e : i = c
        · rw [if_pos ⟨ok, b4, e⟩, e]
          exact gi_pt hg b85 (by show (0 : Int) ≤ _; omega) (by show _ ≤ (99 : Int); omega)
        · rw [if_neg (fun z => e z.2.2), gi_ne (by omega)]
          exact g85 _
      · refine E_ifF rfl (decide_eq_false (fun z => b4 ((nJ_le0 (by omega)).mp z))) ?_
        refine E_c rfl ?_
        exact E_rti rfl ⟨by unfold rtv; rw [if_pos ok, if_neg b4], hg, F, fun i _ => by unfold rts; rw [if_neg (fun z => b4 z.2.1)]; exact g85 _⟩
    · refine E_ifF rfl (by rw [zb_F b2]; rfl) ?_
      exact no (fun q => b2 q.2)
  · refine E_ifT rfl (by rw [zb_F b1]; rfl) ?_
    exact no (fun q => b1 (by omega))
end AC9
end
section
/-! acts of the class, exactly (written by gen_u56.py; wants t56, t57, u55) -/
section AX8
variable {h : pm_H} {d : Nat} {x y : Int32}
theorem sp_doActX {i : Nat} (hh : HH h) (hi : i < 20) (hx : ¬ gi h 23 i = 0 → gn h 22 i ≤ 7) : Sp (d + 1) 51 h [.ref 15, .int (nJ i)] (fun h' r => r = none ∧ HH h' ∧ fr_g [(17, 0, 7)] h h' ∧ gn h' 17 = dAct (gn h 21) (gn h 22) (gn h 23) i (gn h 17)) := by
  have z3 := gn_eq0 hh (a := 23) (k := i) (bd_u rfl hi) (by decide)
  have c1 : gi h 21 i = nJ (gn h 21 i) := gi_gn hh (bd_u rfl hi) (by decide)
  have c2 : gn h 21 i ≤ 7 := gn_hi hh (bd_u rfl hi) (by decide)
  have x1 : gi h 22 i = nJ (gn h 22 i) := gi_gn hh (bd_u rfl hi) (by decide)
  have x2 : gn h 22 i ≤ 8 := gn_hi hh (bd_u rfl hi) (by decide)
  refine Sp_of aiX5_doAct rfl rfl rfl ?_
  have L0 : pm_get (lv_args 0 [.ref 15, .int (nJ i)]) 0 = some (.ref 15) := rfl
  have L1 : pm_get (lv_args 0 [.ref 15, .int (nJ i)]) 1 = some (.int (nJ i)) := rfl
  generalize lv_args 0 [.ref 15, .int (nJ i)] = lv at L0 L1 ⊢
  refine E_al rfl L0 ?_
  refine E_ogr (q := 21) rfl hh rfl rfl ?_
  refine E_il rfl L1 ?_
  refine E_ial rfl hh rfl hi (by decide) c1 ?_
  refine E_is rfl (fun lv1 K2 kp1 => ?_)
  refine E_al rfl (kp1 0 _ (by decide) rfl L0) ?_
  refine E_ogr (q := 22) rfl hh rfl rfl ?_
  refine E_il rfl (kp1 1 _ (by decide) rfl L1) ?_
  refine E_ial rfl hh rfl hi (by decide) x1 ?_
  refine E_is rfl (fun lv2 K3 kp2 => ?_)
  have M0 := kp2 0 _ (by decide) rfl (kp1 0 _ (by decide) rfl L0)
  have M1 := kp2 1 _ (by decide) rfl (kp1 1 _ (by decide) rfl L1)
  have M2 := kp2 2 _ (by decide) rfl K2
  refine E_al rfl M0 ?_
  refine E_ogr (q := 23) rfl hh rfl rfl ?_
  refine E_il rfl M1 ?_
  refine E_zalB rfl hh rfl hi (by decide) rfl ?_
  have b17 : ∀ k, k ≤ 7 → bd 17 k = some (0, 8) := fun k hk => bd_u rfl (by omega)
  by_cases b : gi h 23 i = 0
  · refine E_ifT rfl (decide_eq_true b) ?_
    refine E_al rfl M0 ?_
    refine E_ogr (q := 17) rfl hh rfl rfl ?_
    refine E_il rfl M2 ?_
    refine E_il rfl K3 ?_
    refine E_ias rfl hh rfl (by omega) (by decide) ?_
    exact E_ret rfl ⟨rfl, HH_ptn hh (b17 _ c2) (by omega) (by omega) (by omega), fr_ptr (l := 0) (u := 7) rfl (by omega) (by omega) (fr_rf _ _), by unfold dAct; rw [if_pos (z3.mp b), gn_fup hh (b17 _ c2) (by omega) (by omega) (by omega)]⟩
  · have x7 := hx b
    refine E_ifF rfl (decide_eq_false b) ?_
    have n1 : gi h 17 (gn h 21 i) = nJ (gn h 17 (gn h 21 i)) := gi_gn hh (b17 _ c2) (by decide)
    have n2 : gn h 17 (gn h 21 i) ≤ 8 := gn_hi hh (b17 _ c2) (by decide)
    have n3 : gi h 17 (gn h 22 i) = nJ (gn h 17 (gn h 22 i)) := gi_gn hh (b17 _ x7) (by decide)
    have n4 : gn h 17 (gn h 22 i) ≤ 8 := gn_hi hh (b17 _ x7) (by decide)
    refine E_al rfl M0 ?_
    refine E_ogr (q := 17) rfl hh rfl rfl ?_
    refine E_il rfl M2 ?_
    refine E_ial rfl hh rfl (by omega) (by decide) n1 ?_
    refine E_is rfl (fun lv3 K4 kp3 => ?_)
    have N0 := kp3 0 _ (by decide) rfl M0
    have N2 := kp3 2 _ (by decide) rfl M2
    have N3 := kp3 3 _ (by decide) rfl K3
    refine E_al rfl N0 ?_
    refine E_ogr (q := 17) rfl hh rfl rfl ?_
    refine E_il rfl N2 ?_
    refine E_al rfl N0 ?_
    refine E_ogr (q := 17) rfl hh rfl rfl ?_
    refine E_il rfl N3 ?_
    refine E_ial rfl hh rfl (by omega) (by decide) n3 ?_
    refine E_ias rfl hh rfl (by omega) (by decide) ?_
    have h1 : HH (pt h 17 (gn h 21 i) (nJ (gn h 17 (gn h 22 i)))) := HH_ptn hh (b17 _ c2) (by omega) (by omega) (by omega)
    refine E_al rfl N0 ?_
    refine E_ogr (q := 17) rfl h1 rfl rfl ?_
    refine E_il rfl N3 ?_
    refine E_il rfl K4 ?_
    refine E_ias rfl h1 rfl (by omega) (by decide) ?_
    refine E_goto rfl ?_
    exact E_ret rfl ⟨rfl, HH_ptn h1 (b17 _ x7) (by omega) (by omega) (by omega), fr_ptr (l := 0) (u := 7) rfl (by omega) (by omega) (fr_ptr (l := 0) (u := 7) rfl (by omega) (by omega) (fr_rf _ _)), by unfold dAct; rw [if_neg (fun q => b (z3.mpr q)), gn_fup h1 (b17 _ x7) (by omega) (by omega) (by omega), gn_fup hh (b17 _ c2) (by omega) (by omega) (by omega)]⟩
end AX8
end
