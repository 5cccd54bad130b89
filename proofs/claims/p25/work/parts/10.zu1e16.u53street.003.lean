section
section AC8
variable {h : pm_H} {d : Nat} {x y : Int32}
theorem sp_hasPair8 (hh : HH h) : Sp (d + 2) 116 h [.ref 0, .int x, .int y] (fun h' r => h' = h ∧ r = some (.int (zb ((0 ≤ x.toInt ∧ x.toInt < (gn h 15 4 : Int)) ∧ (0 ≤ y.toInt ∧ y.toInt < (gn h 15 4 : Int)) ∧ ¬ x = y)))) := by
  refine Sp_of aiX8_hasPair rfl rfl rfl ?_
  have L0 : pm_get (lv_args 0 [.ref 0, .int x, .int y]) 0 = some (.ref 0) := rfl
  have L1 : pm_get (lv_args 0 [.ref 0, .int x, .int y]) 1 = some (.int x) := rfl
  have L2 : pm_get (lv_args 0 [.ref 0, .int x, .int y]) 2 = some (.int y) := rfl
  generalize lv_args 0 [.ref 0, .int x, .int y] = lv at L0 L1 L2 ⊢
  have no : ¬ ((0 ≤ x.toInt ∧ x.toInt < (gn h 15 4 : Int)) ∧ (0 ≤ y.toInt ∧ y.toInt < (gn h 15 4 : Int)) ∧ ¬ x = y) → Ends (pm_at tX8_hasPair) (pm_Rt pm_P (d + 1)) (25, lv, [], h, 0, 0) (fun h' r => h' = h ∧ r = some (.int (zb ((0 ≤ x.toInt ∧ x.toInt < (gn h 15 4 : Int)) ∧ (0 ≤ y.toInt ∧ y.toInt < (gn h 15 4 : Int)) ∧ ¬ x = y)))) := by
    intro q
    refine E_ci 0 rfl (by decide) ?_
    exact E_rtz rfl (.inl rfl) ⟨rfl, by rw [zb_F q]⟩
  refine E_al rfl L0 ?_
  refine E_il rfl L1 ?_
  refine E_call rfl (sp_hasCar8 (d := d) hh) (chkO (a := 0) hh rfl rfl rfl rfl (by show 0 ≤ 8; decide)) (fun h1 r1 => ?_)
  rintro ⟨e1, f1⟩
  rw [e1, f1]
  by_cases b1 : 0 ≤ x.toInt ∧ x.toInt < (gn h 15 4 : Int)
  · refine E_ifF rfl (by rw [zb_T b1]; rfl) ?_
    refine E_al rfl L0 ?_
    refine E_il rfl L2 ?_
    refine E_call rfl (sp_hasCar8 (d := d) hh) (chkO (a := 0) hh rfl rfl rfl rfl (by show 0 ≤ 8; decide)) (fun h2 r2 => ?_)
    rintro ⟨e2, f2⟩
    rw [e2, f2]
    by_cases b2 : 0 ≤ y.toInt ∧ y.toInt < (gn h 15 4 : Int)
    · refine E_ifF rfl (by rw [zb_T b2]; rfl) ?_
      refine E_il rfl L1 ?_
      refine E_il rfl L2 ?_
      by_cases b3 : x = y
      · refine E_icT rfl (decide_eq_true b3) ?_
        exact no (fun q => q.2.2 b3)
      · refine E_icF rfl (decide_eq_false b3) ?_
        refine E_ci 1 rfl (by decide) ?_
        refine E_goto rfl ?_
        exact E_rtz rfl (.inr rfl) ⟨rfl, by rw [zb_T ⟨b1, b2, b3⟩]⟩
    · refine E_ifT rfl (by rw [zb_F b2]; rfl) ?_
      exact no (fun q => b2 q.2.1)
  · refine E_ifT rfl (by rw [zb_F b1]; rfl) ?_
    exact no (fun q => b1 q.1)
/-- an act done -/
theorem sp_doAct {i : Nat} (hh : HH h) (hi : i < 20) (hx : ¬ gi h 23 i = 0 → gn h 22 i ≤ 7) : Sp (d + 1) 51 h [.ref 15, .int (nJ i)] (fun h' r => r = none ∧ HH h' ∧ fr_g [(17, 0, 7)] h h') := by
  have c1 : gi h 21 i = nJ (gn h 21 i) := gi_gn hh (bd_u rfl hi) (by decide)
  have c2 : gn h 21 i ≤ 7 := gn_hi hh (bd_u rfl hi) (by decide)
  have x1 : gi h 22 i = nJ (gn h 22 i) := gi_gn hh (bd_u rfl hi) (by decide)
  have x2 : gn h 22 i ≤ 8 := gn_hi hh (bd_u rfl hi) (by decide)
  refine Sp_of aiX5_doAct rfl rfl rfl ?_
  have L0 : pm_get (lv_args 0 [.ref 15, .int (nJ i)]) 0 = some (.ref 15) := rfl
  have L1 : pm_get (lv_args 0 [.ref 15, .int (nJ i)]) 1 = some (.int (nJ i)) := rfl
  generalize lv_args 0 [.ref 15, .int (nJ i)] = lv at L0 L1 ⊢
  refine E_al rfl L0 ?_
  refine E_ogr (q := 21) rfl hh rfl rfl ?_
  refine E_il rfl L1 ?_
  refine E_ial rfl hh rfl hi (by decide) c1 ?_
  refine E_is rfl (fun lv1 K2 kp1 => ?_)
  refine E_al rfl (kp1 0 _ (by decide) rfl L0) ?_
  refine E_ogr (q := 22) rfl hh rfl rfl ?_
  refine E_il rfl (kp1 1 _ (by decide) rfl L1) ?_
  refine E_ial rfl hh rfl hi (by decide) x1 ?_
  refine E_is rfl (fun lv2 K3 kp2 => ?_)
  have M0 := kp2 0 _ (by decide) rfl (kp1 0 _ (by decide) rfl L0)
  have M1 := kp2 1 _ (by decide) rfl (kp1 1 _ (by decide) rfl L1)
  have M2 := kp2 2 _ (by decide) rfl K2
  refine E_al rfl M0 ?_
  refine E_ogr (q := 23) rfl hh rfl rfl ?_
  refine E_il rfl M1 ?_
  refine E_zalB rfl hh rfl hi (by decide) rfl ?_
  have b17 : ∀ k, k ≤ 7 → bd 17 k = some (0, 8) := fun k hk => bd_u rfl (by omega)
  by_cases b : gi h 23 i = 0
  · refine E_ifT rfl (decide_eq_true b) ?_
    refine E_al rfl M0 ?_
    refine E_ogr (q := 17) rfl hh rfl rfl ?_
    refine E_il rfl M2 ?_
    refine E_il rfl K3 ?_
    refine E_ias rfl hh rfl (by omega) (by decide) ?_
    exact E_ret rfl ⟨rfl, HH_ptn hh (b17 _ c2) (by omega) (by omega) (by omega), fr_ptr (l := 0) (u := 7) rfl (by omega) (by omega) (fr_rf _ _)⟩
  · have x7 := hx b
    refine E_ifF rfl (decide_eq_false b) ?_
    have n1 : gi h 17 (gn h 21 i) = nJ (gn h 17 (gn h 21 i)) := gi_gn hh (b17 _ c2) (by decide)
    have n2 : gn h 17 (gn h 21 i) ≤ 8 := gn_hi hh (b17 _ c2) (by decide)
    have n3 : gi h 17 (gn h 22 i) = nJ (gn h 17 (gn h 22 i)) := gi_gn hh (b17 _ x7) (by decide)
    have n4 : gn h 17 (gn h 22 i) ≤ 8 := gn_hi hh (b17 _ x7) (by decide)
    refine E_al rfl M0 ?_
    refine E_ogr (q := 17) rfl hh rfl rfl ?_
    refine E_il rfl M2 ?_
    refine E_ial rfl hh rfl (by omega) (by decide) n1 ?_
    refine E_is rfl (fun lv3 K4 kp3 => ?_)
    have N0 := kp3 0 _ (by decide) rfl M0
    have N2 := kp3 2 _ (by decide) rfl M2
    have N3 := kp3 3 _ (by decide) rfl K3
    refine E_al rfl N0 ?_
    refine E_ogr (q := 17) rfl hh rfl rfl ?_
    refine E_il rfl N2 ?_
    refine E_al rfl N0 ?_
    refine E_ogr (q := 17) rfl hh rfl rfl ?_
    refine E_il rfl N3 ?_
    refine E_ial rfl hh rfl (by omega) (by decide) n3 ?_
    refine E_ias rfl hh rfl (by omega) (by decide) ?_
    have h1 : HH (pt h 17 (gn h 21 i) (nJ (gn h 17 (gn h 22 i)))) := HH_ptn hh (b17 _ c2) (by omega) (by omega) (by omega)
    refine E_al rfl N0 ?_
    refine E_ogr (q := 17) rfl h1 rfl rfl ?_
    refine E_il rfl N3 ?_
    refine E_il rfl K4 ?_
    refine E_ias rfl h1 rfl (by omega) (by decide) ?_
    refine E_goto rfl ?_
    exact E_ret rfl ⟨rfl, HH_ptn h1 (b17 _ x7) (by omega) (by omega) (by omega), fr_ptr (l := 0) (u := 7) rfl (by omega) (by omega) (fr_ptr (l := 0) (u := 7) rfl (by omega) (by omega) (fr_rf _ _))⟩
noncomputable def KAF : List Rng := [(15, 6, 6), (17, 0, 7)]
noncomputable def udv (p a : Nat) : Int32 := if p = 0 then -2 else if a = 0 then -5 else nJ (a - 1)
noncomputable def uda (p a : Nat) : Nat := if p = 0 then a else a - 1
noncomputable def anv (p a : Nat) : Int32 := if p = 0 then -2 else nJ a
noncomputable def ana (p a : Nat) : Nat := if p = 0 then a else 0
/-- what rate answers: c cars, a acts, s where cars stand -/
noncomputable def rtv (c a : Nat) (s : Nat → Int32) (x y : Int32) : Int32 := if (0 ≤ x.toInt ∧ x.toInt < (c : Int)) ∧ 0 ≤ y.toInt ∧ y.toInt ≤ 99 then (if a = 0 then s x.toInt.toNat else -5) else -2
noncomputable def rts (c a : Nat) (s : Nat → Int32) (x y : Int32) (i : Nat) : Int32 := if ((0 ≤ x.toInt ∧ x.toInt < (c : Int)) ∧ 0 ≤ y.toInt ∧ y.toInt ≤ 99) ∧ a = 0 ∧ i = x.toInt.toNat then y else s i
theorem sp_rate8 (hh : HH h) : Sp (d + 2) 164 h [.ref 0, .int x, .int y] (fun h' r => r = some (.int (rtv (gn h 15 4) (gn h 15 6) (gi h 18) x y)) ∧ ∀ i, gi h' 18 i = rts (gn h 15 4) (gn h 15 6) (gi h 18) x y i) := by
  obtain ⟨a1, a2, a3, a4, a5, a6⟩ := g15 hh
  have z0 : (0 : Int32).toInt = 0 := rfl
  refine Sp_of aiX8_rate rfl rfl rfl ?_
  have L0 : pm_get (lv_args 0 [.ref 0, .int x, .int y]) 0 = some (.ref 0) := rfl
  have L1 : pm_get (lv_args 0 [.ref 0, .int x, .int y]) 1 = some (.int x) := rfl
  have L2 : pm_get (lv_args 0 [.ref 0, .int x, .int y]) 2 = some (.int y) := rfl
  generalize lv_args 0 [.ref 0, .int x, .int y] = lv at L0 L1 L2 ⊢
  have no : ¬ ((0 ≤ x.toInt ∧ x.toInt < (gn h 15 4 : Int)) ∧ 0 ≤ y.toInt ∧ y.toInt ≤ 99) → Ends (pm_at tX8_rate) (pm_Rt pm_P (d + 1)) (18, lv, [], h, 0, 0) (fun h' r => r = some (.int (rtv (gn h 15 4) (gn h 15 6) (gi h 18) x y)) ∧ ∀ i, gi h' 18 i = rts (gn h 15 4) (gn h 15 6) (gi h 18) x y i) := by
    intro q
    refine E_c rfl ?_
    exact E_rti rfl ⟨by unfold rtv; rw [if_neg q], fun i => by unfold rts; rw [if_neg (fun z => q z.1)]⟩
  refine E_al rfl L0 ?_
  refine E_il rfl L1 ?_
  refine E_call rfl (sp_hasCar8 (d := d) hh) (chkO (a := 0) hh rfl rfl rfl rfl (by show 0 ≤ 8; decide)) (fun h1 r1 => ?_)
  rintro ⟨e1, f1⟩
  rw [e1, f1]
  by_cases b1 : 0 ≤ x.toInt ∧ x.toInt < (gn h 15 4 : Int)
  · refine E_ifF rfl (by rw [zb_T b1]; rfl) ?_
    obtain ⟨c, hc, rfl⟩ : ∃ c, c < 8 ∧ x = nJ c := ⟨x.toInt.toNat, by omega, nJ_of b1.1⟩
    have xc := nJ_toInt (n := c) (by omega)
    refine E_il rfl L2 ?_
    by_cases b2 : y < 0
    · have q := Int32.lt_iff_toInt_lt.mp b2
      refine E_ifT rfl (decide_eq_true b2) ?_
      exact no (by omega)
    have q2 : ¬ y.toInt < (0 : Int32).toInt := fun z => b2 (Int32.lt_iff_toInt_lt.mpr z)
    refine E_ifF rfl (decide_eq_false b2) ?_
    refine E_il rfl L2 ?_
    refine E_ci 99 rfl (by decide) ?_
    by_cases b3 : y ≤ nJ 99
    · have q3 := Int32.le_iff_toInt_le.mp b3
      rw [nJ_toInt (by omega)] at q3
      refine E_icT rfl (decide_eq_true b3) ?_
      have ok : (0 ≤ (nJ c).toInt ∧ (nJ c).toInt < (gn h 15 4 : Int)) ∧ 0 ≤ y.toInt ∧ y.toInt ≤ 99 := ⟨b1, by omega, by omega⟩
      refine E_al rfl L0 ?_
      refine E_ogr (q := 15) rfl hh rfl rfl ?_
      refine E_ogf (q := (0, 20)) rfl hh rfl rfl a5 ?_
      by_cases b4 : gn h 15 6 = 0
      · refine E_ifT rfl (decide_eq_true ((nJ_eq0 (by omega)).mpr b4)) ?_
        refine E_al rfl L0 ?_
        refine E_ogr (q := 15) rfl hh rfl rfl ?_
        refine E_ogr (q := 18) rfl hh rfl rfl ?_
        refine E_il rfl L1 ?_
        refine E_ial rfl hh rfl hc (by decide) rfl ?_
        refine E_is rfl (fun lv1 K3 kp => ?_)
        refine E_al rfl (kp 0 _ (by decide) rfl L0) ?_
        refine E_ogr (q := 15) rfl hh rfl rfl ?_
        refine E_ogr (q := 18) rfl hh rfl rfl ?_
        refine E_il rfl (kp 1 _ (by decide) rfl L1) ?_
        refine E_il rfl (kp 2 _ (by decide) rfl L2) ?_
        refine E_ias rfl hh rfl hc (by decide) ?_
        refine E_il rfl K3 ?_
        have ec : (nJ c).toInt.toNat = c := by omega
        have b18 : bd 18 c = some (0, 99) := bd_u rfl hc
        refine E_rti rfl ⟨by unfold rtv; rw [if_pos ok, if_pos b4, ec], fun i => ?_⟩
        unfold rts
        rw [ec]
        by_cases e : i = c
        · rw [if_pos ⟨ok, b4, e⟩, e]
          exact gi_pt hh b18 (by show (0 : Int) ≤ _; omega) (by show _ ≤ (99 : Int); omega)
        · rw [if_neg (fun z => e z.2.2)]
          exact gi_ne (fun _ => e)
      · refine E_ifF rfl (decide_eq_false (fun z => b4 ((nJ_eq0 (by omega)).mp z))) ?_
        refine E_c rfl ?_
        exact E_rti rfl ⟨by unfold rtv; rw [if_pos ok, if_neg b4], fun i => by unfold rts; rw [if_neg (fun z => b4 z.2.1)]⟩
    · have q3 : ¬ y.toInt ≤ (nJ 99).toInt := fun z => b3 (Int32.le_iff_toInt_le.mpr z)
      rw [nJ_toInt (by omega)] at q3
      refine E_icF rfl (decide_eq_false b3) ?_
      exact no (by omega)
  · refine E_ifT rfl (by rw [zb_F b1]; rfl) ?_
    exact no (fun q => b1 q.1)
end AC8
end
section
/-! wants and trades of the class; undo, anew, rate, wants, trades of the reference: the numbers that are counted (wants t56) -/
end
