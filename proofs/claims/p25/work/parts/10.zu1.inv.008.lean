section
/-- what write answers: f filled, m how many -/
noncomputable def wrv (f m : Nat → Int32) (x i : Int32) : Int32 := if 0 ≤ x.toInt ∧ x.toInt ≤ 3 then (if f x.toInt.toNat = 0 then -6 else if 0 ≤ i.toInt ∧ i.toInt < (m x.toInt.toNat).toInt then 0 else -7) else -2
theorem nJ_nat {s : Nat} (hs : s < 4) : (nJ s).toInt.toNat = s := by rw [nJ_toInt (by omega)]; omega
theorem nJ_sl {s : Nat} (hs : s < 4) : 0 ≤ (nJ s).toInt ∧ (nJ s).toInt ≤ 3 := by rw [nJ_toInt (by omega)]; omega
section WRV
variable {f m f' m' w w' : Nat → Int32} {s : Nat} {x i : Int32}
theorem wrv_6 (hs : s < 4) (e : f s = 0) : wrv f m (nJ s) i = -6 := by
  unfold wrv
  rw [if_pos (nJ_sl hs), nJ_nat hs, if_pos e]
theorem wrv_7 (hs : s < 4) (e : ¬ f s = 0) (b : ¬ (0 ≤ i.toInt ∧ i.toInt < (m s).toInt)) : wrv f m (nJ s) i = -7 := by
  unfold wrv
  rw [if_pos (nJ_sl hs), nJ_nat hs, if_neg e, if_neg b]
theorem wrv_0 (hs : s < 4) (e : ¬ f s = 0) (b : 0 ≤ i.toInt ∧ i.toInt < (m s).toInt) : wrv f m (nJ s) i = 0 := by
  unfold wrv
  rw [if_pos (nJ_sl hs), nJ_nat hs, if_neg e, if_pos b]
theorem wrv_2 (b : ¬ (0 ≤ x.toInt ∧ x.toInt ≤ 3)) : wrv f m x i = -2 := if_neg b
theorem wrv_eq (h1 : ∀ s, s < 4 → f s = f' s) (h2 : ∀ s, s < 4 → m s = m' s) : wrv f m x i = wrv f' m' x i := by
  unfold wrv
  by_cases q : 0 ≤ x.toInt ∧ x.toInt ≤ 3
  · rw [if_pos q, if_pos q, h1 _ (by omega), h2 _ (by omega)]
  · rw [if_neg q, if_neg q]
/-- what paste answers: w the width -/
noncomputable def pav (f w m : Nat → Int32) (x i y j n : Int32) : Int32 := if (0 ≤ x.toInt ∧ x.toInt ≤ 3) ∧ 0 ≤ y.toInt ∧ y.toInt ≤ 3 then (if f x.toInt.toNat = 0 ∨ f y.toInt.toNat = 0 then -6 else if w x.toInt.toNat = w y.toInt.toNat then (if (0 ≤ i.toInt ∧ 0 ≤ n.toInt ∧ i.toInt + n.toInt ≤ (m x.toInt.toNat).toInt) ∧ 0 ≤ j.toInt ∧ 0 ≤ n.toInt ∧ j.toInt + n.toInt ≤ (m y.toInt.toNat).toInt then 0 else -7) else -8) else -2
theorem pav_in {t : Nat} {j n : Int32} (hs : s < 4) (ht : t < 4) : pav f w m (nJ s) i (nJ t) j n = if f s = 0 ∨ f t = 0 then -6 else if w s = w t then (if (0 ≤ i.toInt ∧ 0 ≤ n.toInt ∧ i.toInt + n.toInt ≤ (m s).toInt) ∧ 0 ≤ j.toInt ∧ 0 ≤ n.toInt ∧ j.toInt + n.toInt ≤ (m t).toInt then 0 else -7) else -8 := by
  unfold pav
  rw [if_pos ⟨nJ_sl hs, nJ_sl ht⟩, nJ_nat hs, nJ_nat ht]
theorem pav_2 {y j n : Int32} (b : ¬ ((0 ≤ x.toInt ∧ x.toInt ≤ 3) ∧ 0 ≤ y.toInt ∧ y.toInt ≤ 3)) : pav f w m x i y j n = -2 := if_neg b
theorem pav_eq {y j n : Int32} (h1 : ∀ s, s < 4 → f s = f' s) (h2 : ∀ s, s < 4 → ¬ f' s = 0 → w s = w' s) (h3 : ∀ s, s < 4 → m s = m' s) : pav f w m x i y j n = pav f' w' m' x i y j n := by
  by_cases q : (0 ≤ x.toInt ∧ x.toInt ≤ 3) ∧ 0 ≤ y.toInt ∧ y.toInt ≤ 3
  · obtain ⟨s, hs, rfl⟩ : ∃ s, s < 4 ∧ x = nJ s := ⟨x.toInt.toNat, by omega, nJ_of q.1.1⟩
    obtain ⟨t, ht, rfl⟩ : ∃ s, s < 4 ∧ y = nJ s := ⟨y.toInt.toNat, by omega, nJ_of q.2.1⟩
    rw [pav_in hs ht, pav_in hs ht, h1 s hs, h1 t ht, h3 s hs, h3 t ht]
    by_cases z : f' s = 0 ∨ f' t = 0
    · rw [if_pos z, if_pos z]
    · rw [if_neg z, if_neg z, h2 s hs (fun e => z (.inl e)), h2 t ht (fun e => z (.inr e))]
  · rw [pav_2 q, pav_2 q]
end WRV
noncomputable def cf (h : pm_H) (s : Nat) : Int32 := gi h (54 + 2 * s) 1
noncomputable def cwd (h : pm_H) (s : Nat) : Int32 := gi h (54 + 2 * s) 2
noncomputable def cm (h : pm_H) (s : Nat) : Int32 := gi h (54 + 2 * s) 3
noncomputable def rf (h : pm_H) (s : Nat) : Int32 := if gi h 78 s = -1 then 0 else 1
noncomputable def rfw (h : pm_H) (s : Nat) : Int32 := gi h 78 s
noncomputable def rm (h : pm_H) (s : Nat) : Int32 := gi h 79 s
theorem rf_0 {h : pm_H} {s : Nat} (e : gi h 78 s = -1) : rf h s = 0 := if_pos e
theorem rf_1 {h : pm_H} {s : Nat} (e : ¬ gi h 78 s = -1) : ¬ rf h s = 0 := fun q => by
  unfold rf at q
  rw [if_neg e] at q
  exact absurd q (by decide)
theorem psv_pav {h : pm_H} {x i y j n r : Int32} (q : psv h x i y j n r) : r = pav (cf h) (cwd h) (cm h) x i y j n := by
  rcases q with ⟨q, rfl⟩ | ⟨s, t, hs, ht, rfl, rfl, q⟩
  · rw [pav_2 q]
  · rw [pav_in hs ht]
    rcases q with ⟨q, rfl⟩ | ⟨q, q2⟩
    · exact (if_pos q).symm
    rw [if_neg (show ¬ (cf h s = 0 ∨ cf h t = 0) from q)]
    rcases q2 with ⟨q2, rfl⟩ | ⟨q2, q3⟩
    · exact (if_neg q2).symm
    rw [if_pos (show cwd h s = cwd h t from q2)]
    rcases q3 with ⟨q3, rfl⟩ | ⟨q3, rfl⟩
    · exact (if_neg q3).symm
    · exact (if_pos q3).symm
section WR8
variable {h : pm_H} {d : Nat} {x i : Int32} {v : Int64}
theorem sp_write8 (hh : HH h) : Sp (d + 2) 203 h [.ref 0, .int x, .int i, .long v] (fun _ r => r = some (.int (wrv (cf h) (cm h) x i))) := by
  refine Sp_of aiX8_write rfl rfl rfl ?_
  have L0 : pm_get (lv_args 0 [.ref 0, .int x, .int i, .long v]) 0 = some (.ref 0) := rfl
  have L1 : pm_get (lv_args 0 [.ref 0, .int x, .int i, .long v]) 1 = some (.int x) := rfl
  have L2 : pm_get (lv_args 0 [.ref 0, .int x, .int i, .long v]) 2 = some (.int i) := rfl
  have L3 : pm_get (lv_args 0 [.ref 0, .int x, .int i, .long v]) 3 = some (.long v) := rfl
  generalize lv_args 0 [.ref 0, .int x, .int i, .long v] = lv at L0 L1 L2 L3 ⊢
  have z0 : (0 : Int32).toInt = 0 := rfl
  refine E_il rfl L1 ?_
  refine E_call rfl (sp_isSlot8 (d := d)) (chkS rfl (by show 0 ≤ 8; decide)) (fun h1 r1 => ?_)
  rintro ⟨e1, rv⟩
  rw [e1]
  rcases rv with ⟨a0, a3, hr⟩ | ⟨an, hr⟩
  · rw [hr]
    refine E_ifT rfl (by decide) ?_
    obtain ⟨s, hs, rfl⟩ : ∃ s, s < 4 ∧ x = nJ s := ⟨x.toInt.toNat, by omega, nJ_of a0⟩
    obtain ⟨S1, S2, S3, S4, S5, S6⟩ := isS_at s hs
    refine E_al rfl L0 ?_
    refine E_ogr rfl hh rfl (q := 53) rfl ?_
    refine E_il rfl L1 ?_
    refine E_aal rfl hh rfl (slot_at s hs) (by decide) ?_
    refine E_asw rfl (fun lv1 M5 kp => ?_)
    have M2 := kp 2 _ (by decide) (by decide) L2
    have M3 := kp 3 _ (by decide) (by decide) L3
    refine E_al rfl M5 ?_
    refine E_ogf rfl hh S1 S4 rfl ?_
    by_cases b1 : gi h (54 + 2 * s) 1 = 0
    · refine E_ifF rfl (decide_eq_false (fun q => q b1)) ?_
      refine E_c rfl ?_
      exact E_rti rfl (by rw [wrv_6 hs b1])
    refine E_ifT rfl (decide_eq_true b1) ?_
    have g := (ld_gi hh S6).2
    dsimp only at g
    have no : ∀ {lv : List (Nat × Value)}, ¬ (0 ≤ i.toInt ∧ i.toInt < (gi h (54 + 2 * s) 3).toInt) → Ends (pm_at tX8_write) (pm_Rt pm_P (d + 1)) (42, lv, [], h, 0, 0) (fun _ r => r = some (.int (wrv (cf h) (cm h) (nJ s) i))) := by
      intro lv hn
      refine E_c rfl ?_
      exact E_rti rfl (by rw [wrv_7 hs b1 hn])
    refine E_il rfl M2 ?_
    by_cases b2 : i < 0
    · have q := Int32.lt_iff_toInt_lt.mp b2
      refine E_ifT rfl (decide_eq_true b2) ?_
      exact no (by omega)
    have q2 : ¬ i.toInt < (0 : Int32).toInt := fun z => b2 (Int32.lt_iff_toInt_lt.mpr z)
    refine E_ifF rfl (decide_eq_false b2) ?_
    refine E_il rfl M2 ?_
    refine E_al rfl M5 ?_
    refine E_ogf rfl hh S1 S6 rfl ?_
    by_cases b3 : i < gi h (54 + 2 * s) 3
    · have q3 := Int32.lt_iff_toInt_lt.mp b3
      refine E_icT rfl (decide_eq_true b3) ?_
      obtain ⟨k, hk, rfl⟩ : ∃ k, k < 60 ∧ i = nJ k := ⟨i.toInt.toNat, by omega, nJ_of (by omega)⟩
      refine E_al rfl M5 ?_
      refine E_ogr rfl hh S1 S2 ?_
      refine E_il rfl M2 ?_
      refine E_ll rfl M3 ?_
      refine E_al rfl M5 ?_
      refine E_ogf rfl hh S1 S5 rfl ?_
      refine E_call rfl (sp_cut8 (d := d)) (chkS rfl (by show 2 ≤ 8; decide)) (fun h3 r3 => ?_)
      rintro ⟨e3, f3⟩
      rw [e3, f3]
      refine E_las rfl hh S3 hk (by decide) (fun h4 _ _ _ => ?_)
      refine E_c rfl ?_
      exact E_rti rfl (by rw [wrv_0 hs b1 ⟨by omega, q3⟩])
    · have q3 : ¬ i.toInt < (gi h (54 + 2 * s) 3).toInt := fun z => b3 (Int32.lt_iff_toInt_lt.mpr z)
      refine E_icF rfl (decide_eq_false b3) ?_
      exact no (fun z => q3 z.2)
  · rw [hr]
    refine E_ifF rfl (by decide) ?_
    refine E_c rfl ?_
    exact E_rti rfl (by rw [wrv_2 an])
theorem sp_write9 (hh : HH h) : Sp (d + 3) 380 h [.ref 77, .int x, .int i, .long v] (fun _ r => r = some (.int (wrv (rf h) (rm h) x i))) := by
  refine Sp_of aiX9_write rfl rfl rfl ?_
  have L0 : pm_get (lv_args 0 [.ref 77, .int x, .int i, .long v]) 0 = some (.ref 77) := rfl
  have L1 : pm_get (lv_args 0 [.ref 77, .int x, .int i, .long v]) 1 = some (.int x) := rfl
  have L2 : pm_get (lv_args 0 [.ref 77, .int x, .int i, .long v]) 2 = some (.int i) := rfl
  have L3 : pm_get (lv_args 0 [.ref 77, .int x, .int i, .long v]) 3 = some (.long v) := rfl
  generalize lv_args 0 [.ref 77, .int x, .int i, .long v] = lv at L0 L1 L2 L3 ⊢
  have o1 : (1 : Int32).toInt = 1 := rfl
  refine E_al rfl L0 ?_
  refine E_ci 0 rfl (by decide) ?_
  refine E_pf rfl hh rfl ?_
  have hg : HH (pt h 77 0 (nJ 0)) := HH_ptn hh rfl (by omega) (by omega) (by omega)
  refine E_il rfl L1 ?_
  refine E_call rfl sp_isSlot (chkS rfl (by show 0 ≤ 8; decide)) (fun h1 r1 => ?_)
  rintro ⟨e1, f1⟩
  rw [e1, f1]
  by_cases b0 : 0 ≤ x.toInt ∧ x.toInt ≤ 3
  · refine E_ifT rfl (by rw [zb_T b0]; rfl) ?_
    obtain ⟨s, hs, rfl⟩ : ∃ s, s < 4 ∧ x = nJ s := ⟨x.toInt.toNat, by omega, nJ_of b0.1⟩
    refine E_al rfl L0 ?_
    refine E_gr rfl hg (q := 78) rfl ?_
    refine E_il rfl L1 ?_
    refine E_ial (v := gi h 78 s) rfl hg rfl (by omega) (by decide) (gi_ne (by omega)) ?_
    refine E_c rfl ?_
    by_cases b1 : gi h 78 s = -1
    · refine E_icF rfl (decide_eq_false (fun q => q b1)) ?_
      refine E_c rfl ?_
      exact E_rti rfl (by rw [wrv_6 hs (rf_0 b1)])
    refine E_icT rfl (decide_eq_true b1) ?_
    refine E_il rfl L2 ?_
    refine E_i2l rfl ?_
    refine E_c rfl ?_
    refine E_al rfl L0 ?_
    refine E_gr rfl hg (q := 79) rfl ?_
    refine E_il rfl L1 ?_
    refine E_ial (v := gi h 79 s) rfl hg rfl (by omega) (by decide) (gi_ne (by omega)) ?_
    refine E_c rfl ?_
    refine E_bin rfl rfl ?_
    refine E_i2l rfl ?_
    have g := (ld_gi hh (a := 79) (k := s) (bd_u rfl (by omega))).2
    dsimp only at g
    have es : (gi h 79 s - 1).toInt = (gi h 79 s).toInt - 1 := by
      rw [Int32.toInt_sub, o1]
      exact Int.bmod_eq_of_le (by omega) (by omega)
    refine E_call rfl (sp_in (a := i.toInt) (b := 0) (c := (gi h 79 s).toInt - 1) (i2l_toInt _) rfl (by rw [i2l_toInt]; exact es)) (chkS rfl (by show 0 ≤ 8; decide)) (fun h2 r2 => ?_)
    rintro ⟨e2, f2⟩
    rw [e2, f2]
    by_cases b2 : 0 ≤ i.toInt ∧ i.toInt ≤ (gi h 79 s).toInt - 1
    · refine E_ifT rfl (by rw [zb_T b2]; rfl) ?_
      obtain ⟨k, hk, rfl⟩ : ∃ k, k < 60 ∧ i = nJ k := ⟨i.toInt.toNat, by omega, nJ_of b2.1⟩
      refine E_al rfl L0 ?_
      refine E_gr rfl hg (q := 80) rfl ?_
      refine E_ci 60 rfl (by decide) ?_
      refine E_il rfl L1 ?_
      refine E_bin rfl (nJ_mul _ _) ?_
      refine E_il rfl L2 ?_
      refine E_bin rfl (nJ_add _ _) ?_
      refine E_ll rfl L3 ?_
      refine E_al rfl L0 ?_
      refine E_gr rfl hg (q := 78) rfl ?_
      refine E_il rfl L1 ?_
      refine E_ial rfl hg rfl (by omega) (by decide) rfl ?_
      refine E_call rfl (sp_cut9 (d := d + 1)) (chkS rfl (by show 2 ≤ 8; decide)) (fun h3 r3 => ?_)
      rintro ⟨e3, f3⟩
      rw [e3, f3]
      refine E_las rfl hg rfl (by omega) (by decide) (fun h4 _ _ _ => ?_)
      refine E_c rfl ?_
      exact E_rti rfl (by rw [wrv_0 hs (rf_1 b1) ⟨b2.1, by have := b2.2; show _ < (gi h 79 s).toInt; omega⟩])
    · refine E_ifF rfl (by rw [zb_F b2]; rfl) ?_
      refine E_c rfl ?_
      exact E_rti rfl (by rw [wrv_7 hs (rf_1 b1) (fun z => b2 ⟨z.1, by have : _ < (gi h 79 s).toInt := z.2; omega⟩)])
  · refine E_ifF rfl (by rw [zb_F b0]; rfl) ?_
    refine E_c rfl ?_
    exact E_rti rfl (by rw [wrv_2 b0])
end WR8
/-! the reference's paste -/
end
