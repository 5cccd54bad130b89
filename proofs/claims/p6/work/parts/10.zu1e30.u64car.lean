/-! car of both (wants u63) -/
def crv (c : Nat) (f g : Nat → Int32) (x y : Int32) : Int32 := if (0 ≤ x.toInt ∧ x.toInt < (c : Int)) ∧ 0 ≤ y.toInt ∧ y.toInt ≤ 1 then (if y = 0 then f x.toInt.toNat else g x.toInt.toNat) else -2
theorem crv_eq {c : Nat} {f g f' g' : Nat → Int32} {x y : Int32} (c8 : c ≤ 8) (e : ∀ i, i < c → f i = f' i ∧ g i = g' i) : crv c f g x y = crv c f' g' x y := by
  unfold crv
  by_cases q : (0 ≤ x.toInt ∧ x.toInt < (c : Int)) ∧ 0 ≤ y.toInt ∧ y.toInt ≤ 1
  · rw [if_pos q, if_pos q, (e _ (by omega)).1, (e _ (by omega)).2]
  · rw [if_neg q, if_neg q]
section CAR
variable {h : pm_H} {d : Nat} {x y : Int32}
theorem sp_isTerm8 : Sp (d + 1) 129 h [.int x] (fun h' r => h' = h ∧ r = some (.int (zb (0 ≤ x.toInt ∧ x.toInt ≤ 1)))) := by
  refine Sp_of aiX8_isTerm rfl rfl rfl ?_
  have L0 : pm_get (lv_args 0 [.int x]) 0 = some (.int x) := rfl
  generalize lv_args 0 [.int x] = lv at L0 ⊢
  refine E_il rfl L0 ?_
  by_cases b1 : x = 0
  · refine E_ifT rfl (decide_eq_true b1) ?_
    refine E_ci 1 rfl (by decide) ?_
    refine E_goto rfl ?_
    exact E_rtz rfl (.inr rfl) ⟨rfl, by rw [b1, zb_T (by decide)]⟩
  · refine E_ifF rfl (decide_eq_false b1) ?_
    refine E_il rfl L0 ?_
    refine E_c rfl ?_
    by_cases b2 : x = 1
    · refine E_icF rfl (decide_eq_false (fun q => q b2)) ?_
      refine E_ci 1 rfl (by decide) ?_
      refine E_goto rfl ?_
      exact E_rtz rfl (.inr rfl) ⟨rfl, by rw [b2, zb_T (by decide)]⟩
    · refine E_icT rfl (decide_eq_true b2) ?_
      refine E_ci 0 rfl (by decide) ?_
      refine E_rtz rfl (.inl rfl) ⟨rfl, ?_⟩
      rw [zb_F]
      rintro ⟨q1, q2⟩
      have z0 : (0 : Int32).toInt = 0 := rfl
      have z1 : (1 : Int32).toInt = 1 := rfl
      rcases (show x.toInt = 0 ∨ x.toInt = 1 by omega) with q | q
      · exact b1 (Int32.toInt_inj.mp (by rw [q, z0]))
      · exact b2 (Int32.toInt_inj.mp (by rw [q, z1]))
theorem sp_isHalf9 : Sp (d + 2) 270 h [.int x] (fun h' r => h' = h ∧ r = some (.int (zb (0 ≤ x.toInt ∧ x.toInt ≤ 1)))) := by
  refine Sp_of aiX9_isHalf rfl rfl rfl ?_
  have L0 : pm_get (lv_args 0 [.int x]) 0 = some (.int x) := rfl
  generalize lv_args 0 [.int x] = lv at L0 ⊢
  refine E_il rfl L0 ?_
  refine E_i2l rfl ?_
  refine E_c rfl ?_
  refine E_c rfl ?_
  refine E_call rfl (sp_in (d := d) (a := x.toInt) (b := 0) (c := 1) (i2l_toInt _) rfl rfl) (chkS rfl (by show 0 ≤ 8; decide)) (fun h1 r1 => ?_)
  rintro ⟨e1, f1⟩
  rw [e1, f1]
  by_cases b : 0 ≤ x.toInt ∧ x.toInt ≤ 1
  · rw [zb_T b]; exact E_rtz rfl (.inr rfl) ⟨rfl, rfl⟩
  · rw [zb_F b]; exact E_rtz rfl (.inl rfl) ⟨rfl, rfl⟩
theorem sp_car8 (hh : HH h) : Sp (d + 2) 89 h [.ref 0, .int x, .int y] (fun h' r => h' = h ∧ r = some (.int (crv (gn h 15 4) (gi h 17) (gi h 18) x y))) := by
  obtain ⟨-, -, -, c8, -⟩ := g15 hh
  refine Sp_of aiX8_car rfl rfl rfl ?_
  have L0 : pm_get (lv_args 0 [.ref 0, .int x, .int y]) 0 = some (.ref 0) := rfl
  have L1 : pm_get (lv_args 0 [.ref 0, .int x, .int y]) 1 = some (.int x) := rfl
  have L2 : pm_get (lv_args 0 [.ref 0, .int x, .int y]) 2 = some (.int y) := rfl
  generalize lv_args 0 [.ref 0, .int x, .int y] = lv at L0 L1 L2 ⊢
  have no : ¬ ((0 ≤ x.toInt ∧ x.toInt < (gn h 15 4 : Int)) ∧ 0 ≤ y.toInt ∧ y.toInt ≤ 1) → Ends (pm_at tX8_car) (pm_Rt pm_P (d + 1)) (15, lv, [], h, 0, 0) (fun h' r => h' = h ∧ r = some (.int (crv (gn h 15 4) (gi h 17) (gi h 18) x y))) := by
    intro q
    refine E_c rfl ?_
    exact E_rti rfl ⟨rfl, by unfold crv; rw [if_neg q]⟩
  refine E_al rfl L0 ?_
  refine E_il rfl L1 ?_
  refine E_call rfl (sp_hasCar8 (d := d) hh) (chkO (a := 0) hh rfl rfl rfl rfl (by show 0 ≤ 8; decide)) (fun h1 r1 => ?_)
  rintro ⟨e1, f1⟩
  rw [e1, f1]
  by_cases b1 : 0 ≤ x.toInt ∧ x.toInt < (gn h 15 4 : Int)
  · refine E_ifF rfl (by rw [zb_T b1]; rfl) ?_
    refine E_il rfl L2 ?_
    refine E_call rfl (sp_isTerm8 (d := d)) (chkS rfl (by show 0 ≤ 8; decide)) (fun h2 r2 => ?_)
    rintro ⟨e2, f2⟩
    rw [e2, f2]
    by_cases b2 : 0 ≤ y.toInt ∧ y.toInt ≤ 1
    · refine E_ifT rfl (by rw [zb_T b2]; rfl) ?_
      have ok := And.intro b1 b2
      obtain ⟨c, hc, rfl⟩ : ∃ c, c < 8 ∧ x = nJ c := ⟨x.toInt.toNat, by omega, nJ_of b1.1⟩
      have ec : (nJ c).toInt.toNat = c := by have := nJ_toInt (n := c) (by omega); omega
      refine E_il rfl L2 ?_
      by_cases b3 : y = 0
      · refine E_ifF rfl (decide_eq_false (fun q => q b3)) ?_
        refine E_al rfl L0 ?_
        refine E_ogr (q := 15) rfl hh rfl rfl ?_
        refine E_ogr (q := 17) rfl hh rfl rfl ?_
        refine E_il rfl L1 ?_
        refine E_ial rfl hh rfl (by omega) (by decide) rfl ?_
        refine E_goto rfl ?_
        exact E_rti rfl ⟨rfl, by unfold crv; rw [if_pos ok, if_pos b3, ec]⟩
      · refine E_ifT rfl (decide_eq_true b3) ?_
        refine E_al rfl L0 ?_
        refine E_ogr (q := 15) rfl hh rfl rfl ?_
        refine E_ogr (q := 18) rfl hh rfl rfl ?_
        refine E_il rfl L1 ?_
        refine E_ial rfl hh rfl (by omega) (by decide) rfl ?_
        exact E_rti rfl ⟨rfl, by unfold crv; rw [if_pos ok, if_neg b3, ec]⟩
    · refine E_ifF rfl (by rw [zb_F b2]; rfl) ?_
      exact no (fun q => b2 q.2)
  · refine E_ifT rfl (by rw [zb_F b1]; rfl) ?_
    exact no (fun q => b1 q.1)
/-- a heap that differs in the reference's scratch only tells the same street -/
theorem V9_77 {v : Int32} (V : V9 h) : V9 (pt h 77 0 v) := by
  have e4 : ∀ k, gn (pt h 77 0 v) 84 k = gn h 84 k := fun k => gn_ne (by omega)
  have e7 : ∀ k, gn (pt h 77 0 v) 87 k = gn h 87 k := fun k => gn_ne (by omega)
  intro i hi
  rw [e4] at hi
  have q := V i hi
  unfold vAct C9 G9 Z9 at q ⊢
  rw [e4, e4, e7, e7, e7]
  exact q
theorem W9_77 {v : Int32} : W9 (pt h 77 0 v) = W9 h := by
  have e4 : ∀ k, gn (pt h 77 0 v) 84 k = gn h 84 k := fun k => gn_ne (by omega)
  have e7 : ∀ k, gn (pt h 77 0 v) 87 k = gn h 87 k := fun k => gn_ne (by omega)
  have e5 : ∀ k, gn (pt h 77 0 v) 85 k = gn h 85 k := fun k => gn_ne (by omega)
  have a : C9 (pt h 77 0 v) = C9 h := funext (fun i => e7 _)
  have b : G9 (pt h 77 0 v) = G9 h := funext (fun i => e7 _)
  have c : Z9 (pt h 77 0 v) = Z9 h := funext (fun i => e7 _)
  have d : t9 (pt h 77 0 v) = t9 h := funext (fun i => e5 _)
  unfold W9
  rw [a, b, c, d, e4]
theorem sp_car9 (hh0 : HH h) (hV : V9 h) : Sp (d + 4) 222 h [.ref 77, .int x, .int y] (fun h' r => r = some (.int (crv (gn h 84 3) (fun j => nJ (W9 h j)) (fun i => gi h 85 (2 * i + 1)) x y))) := by
  obtain ⟨-, -, c8, -⟩ := g84 hh0
  refine Sp_of aiX9_car rfl rfl rfl ?_
  have L0 : pm_get (lv_args 0 [.ref 77, .int x, .int y]) 0 = some (.ref 77) := rfl
  have L1 : pm_get (lv_args 0 [.ref 77, .int x, .int y]) 1 = some (.int x) := rfl
  have L2 : pm_get (lv_args 0 [.ref 77, .int x, .int y]) 2 = some (.int y) := rfl
  generalize lv_args 0 [.ref 77, .int x, .int y] = lv at L0 L1 L2 ⊢
  refine E_al rfl L0 ?_
  refine E_ci 0 rfl (by decide) ?_
  refine E_pf rfl hh0 rfl ?_
  have hg : HH (pt h 77 0 (nJ 0)) := HH_ptn hh0 rfl (by omega) (by omega) (by omega)
  have gV : V9 (pt h 77 0 (nJ 0)) := V9_77 hV
  have gW : W9 (pt h 77 0 (nJ 0)) = W9 h := W9_77
  have g3 : gn (pt h 77 0 (nJ 0)) 84 3 = gn h 84 3 := gn_ne (by omega)
  have g85 : ∀ k, gi (pt h 77 0 (nJ 0)) 85 k = gi h 85 k := fun k => gi_ne (by omega)
  generalize pt h 77 0 (nJ 0) = g at hg gV gW g3 g85 ⊢
  have no : ¬ ((0 ≤ x.toInt ∧ x.toInt < (gn h 84 3 : Int)) ∧ 0 ≤ y.toInt ∧ y.toInt ≤ 1) → Ends (pm_at tX9_car) (pm_Rt pm_P (d + 3)) (21, lv, [], g, 0, 0) (fun h' r => r = some (.int (crv (gn h 84 3) (fun j => nJ (W9 h j)) (fun i => gi h 85 (2 * i + 1)) x y))) := by
    intro q
    refine E_c rfl ?_
    exact E_rti rfl (by unfold crv; rw [if_neg q])
  refine E_al rfl L0 ?_
  refine E_il rfl L1 ?_
  refine E_i2l rfl ?_
  refine E_call rfl (Sp_le (by omega) (sp_isCar (d := d) hg)) (chk77 hg rfl rfl (by show 0 ≤ 8; decide)) (fun h1 r1 => ?_)
  rintro ⟨e1, f1⟩
  rw [e1, f1, g3]
  by_cases b1 : 0 ≤ x.toInt ∧ x.toInt ≤ (gn h 84 3 : Int) - 1
  · refine E_ifF rfl (by rw [zb_T b1]; rfl) ?_
    refine E_il rfl L2 ?_
    refine E_call rfl (Sp_le (by omega) (sp_isHalf9 (d := d))) (chkS rfl (by show 0 ≤ 8; decide)) (fun h2 r2 => ?_)
    rintro ⟨e2, f2⟩
    rw [e2, f2]
    by_cases b2 : 0 ≤ y.toInt ∧ y.toInt ≤ 1
    · refine E_ifT rfl (by rw [zb_T b2]; rfl) ?_
      have ok : (0 ≤ x.toInt ∧ x.toInt < (gn h 84 3 : Int)) ∧ 0 ≤ y.toInt ∧ y.toInt ≤ 1 := ⟨by omega, b2⟩
      obtain ⟨c, hc, rfl⟩ : ∃ c, c < 8 ∧ x = nJ c := ⟨x.toInt.toNat, by omega, nJ_of b1.1⟩
      have xc := nJ_toInt (n := c) (by omega)
      have ec : (nJ c).toInt.toNat = c := by omega
      refine E_al rfl L0 ?_
      refine E_call rfl (Sp_le (by omega) (sp_laysX (d := d) hg gV)) (chk77 hg rfl rfl (by show 0 ≤ 8; decide)) (fun h3 r3 => ?_)
      rintro ⟨e3, hh3, f3, -, -, w3⟩
      rw [e3]
      rw [g3, gW] at w3
      refine E_il rfl L2 ?_
      by_cases b3 : y = 0
      · refine E_ifF rfl (decide_eq_false (fun q => q b3)) ?_
        refine E_al rfl L0 ?_
        refine E_gr rfl hh3 (q := 89) rfl ?_
        refine E_il rfl L1 ?_
        refine E_ial rfl hh3 rfl (by omega) (by decide) (show gi h3 89 c = nJ (W9 h c) from by rw [gi_gn hh3 (q := (0, 8)) (bd_u rfl (by omega)) (by decide), w3 c (by omega)]) ?_
        refine E_goto rfl ?_
        exact E_rti rfl (by unfold crv; rw [if_pos ok, if_pos b3, ec])
      · refine E_ifT rfl (decide_eq_true b3) ?_
        refine E_al rfl L0 ?_
        refine E_gr rfl hh3 (q := 85) rfl ?_
        refine E_ci 2 rfl (by decide) ?_
        refine E_il rfl L1 ?_
        refine E_bin rfl (nJ_mul _ _) ?_
        refine E_ci 1 rfl (by decide) ?_
        refine E_bin rfl (nJ_add _ _) ?_
        refine E_ial rfl hh3 rfl (by omega) (by decide) (show gi h3 85 (2 * c + 1) = gi h 85 (2 * c + 1) from by rw [fr_gi f3 (rg_no rfl _)]; exact g85 _) ?_
        exact E_rti rfl (by unfold crv; rw [if_pos ok, if_neg b3, ec])
    · refine E_ifF rfl (by rw [zb_F b2]; rfl) ?_
      exact no (fun q => b2 q.2)
  · refine E_ifT rfl (by rw [zb_F b1]; rfl) ?_
    exact no (fun q => b1 (by omega))
def half_car (h : pm_H) (r x y : Int32) : Prop := QRE h ∧ r = crv (gn h 84 3) (fun j => nJ (W9 h j)) (fun i => gi h 85 (2 * i + 1)) x y
end CAR
section CARQ
variable {h : pm_H} {r x y : Int32}
theorem g8_car (I : IVQ h) : Sp 100 89 h [.ref 0, .int x, .int y] (fun h' v => IVh h' ∧ ∃ r : Int32, v = some (.int r) ∧ half_car h' r x y) := by
  refine Sp_le (by omega) (Sp_mono ?_ (Sp_and (top_all (as := [.ref 0, .int x, .int y]) q111 (by decide +kernel) I.1 ⟨rfl, aI _, aI _, trivial⟩) (sp_car8 (d := 0) I.1.1)))
  rintro h' v ⟨⟨s1, s2, -⟩, rfl, rfl⟩
  obtain ⟨-, -, c8, -⟩ := g84 I.1.1
  have e4 : gn h' 15 4 = gn h' 84 3 := gn_eq I.2.2.1.1.2.2.1
  refine ⟨s1, _, rfl, I.2, ?_⟩
  rw [e4]
  refine crv_eq c8 (fun i hi => ⟨?_, ?_⟩)
  · rw [gi_gn I.1.1 (q := (0, 8)) (bd_u rfl (by omega)) (by decide), (now_eq I.2 i hi).1]
  · have := I.2.2.1.2.2.1 i (by omega) (by omega)
    rw [show 16 * 0 + (2 * i + 1) = 2 * i + 1 by omega] at this
    exact this
theorem g9_car (I : IVh h) (J : half_car h r x y) : Sp 100 222 h [.ref 77, .int x, .int y] (fun h' v => IVQ h' ∧ v = some (.int r)) := by
  obtain ⟨J1, rfl⟩ := J
  refine Sp_le (by omega) (Sp_mono ?_ (Sp_and (top_all (as := [.ref 77, .int x, .int y]) q119 (by decide +kernel) I ⟨rfl, aI _, aI _, trivial⟩) (sp_car9 (d := 0) I.1 (V9_of J1))))
  rintro h' v ⟨⟨s1, s2, -⟩, rfl⟩
  exact ⟨⟨s1, QRE_fr s2 rfl J1⟩, rfl⟩
end CARQ
