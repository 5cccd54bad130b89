/-! the slots, II: write and paste of both, pairs of calls over the slots' relation (wants t30, t31, t27) -/
theorem Sp_an {d y : Nat} {h : pm_H} {as : List Value} {Q Q' : pm_H → Option Value → Prop} (a : Sp d y h as Q) (b : Sp d y h as Q') : Sp d y h as (fun h' r => Q h' r ∧ Q' h' r) := by
  obtain ⟨h1, r1, a1, a2⟩ := a
  obtain ⟨h2, r2, b1, b2⟩ := b
  obtain ⟨rfl, rfl⟩ := pm_Rt_det _ _ _ _ _ _ _ _ a1 b1
  exact ⟨h1, r1, a1, a2, b2⟩
section WRT
variable {look : Nat → Option pm_I} {call : pm_Call} {Q : pm_H → Option Value → Prop} {pc n i t : Nat} {lv : List (Nat × Value)} {st : List Value} {w : pm_H × Nat × Nat} {h : pm_H} {z : Nat × Nat}
theorem gp_nw {v u : Value} {j : Nat} (hj : j ≠ i) (hj1 : j + 1 ≠ i) (e : pm_get lv j = some u) : pm_get (pm_put1 i v lv) j = some u := by
  unfold pm_put1
  refine pm_get_ne hj (pm_get_filter e ?_)
  simp only [Bool.and_eq_true, Bool.not_eq_true', Bool.and_eq_false_iff, beq_eq_false_iff_ne]
  exact ⟨hj, .inl hj1⟩
theorem E_asw {a : Nat} (h1 : look pc = some (.inl (s_as i n))) (k : ∀ lv' : List (Nat × Value), pm_get lv' i = some (.ref a) → (∀ (j : Nat) (u : Value), j ≠ i → j + 1 ≠ i → pm_get lv j = some u → pm_get lv' j = some u) → Ends look call (n, lv', st, w) Q) : Ends look call (pc, lv, .ref a :: st, w) Q :=
  E_st h1 rfl (k (pm_put1 i (.ref a) lv) gp_self (fun _ _ a b c => gp_nw a b c))
theorem E_rtl {v : Int64} (h1 : look pc = some (.inr (.inr 3))) (hq : Q h (some (.long v))) : Ends look call (pc, lv, [.long v], h, z) Q := ⟨h, some (.long v), Go_ret h1 ⟨v, rfl, rfl⟩, hq⟩
theorem E_tsA {lo hi : Int} {ts : List Nat} {dd : Nat} {x : Int32} (h1 : look pc = some (.inl (s_tsw lo hi ts dd))) (hz : (decide (x.toInt < lo) || decide (hi < x.toInt)) = false) (ht : ts[(x.toInt - lo).toNat]? = some t) (k : Ends look call (t, lv, st, w) Q) : Ends look call (pc, lv, .int x :: st, w) Q := E_st h1 (by simp only [s_tsw, hz, cond_false, ht]) k
theorem E_tsD {lo hi : Int} {ts : List Nat} {dd : Nat} {x : Int32} (h1 : look pc = some (.inl (s_tsw lo hi ts dd))) (hz : (decide (x.toInt < lo) || decide (hi < x.toInt)) = true) (k : Ends look call (dd, lv, st, w) Q) : Ends look call (pc, lv, .int x :: st, w) Q := E_st h1 (by simp only [s_tsw, hz, cond_true]) k
end WRT
/-- a number cut to its width -/
noncomputable def cutv (v : Int64) (w : Int32) : Int64 := if w = 0 then v.toInt32.toInt8.toInt32.toInt64 else if w = 1 then v.toInt32.toInt16.toInt32.toInt64 else if w = 2 then v.toInt32.toInt64 else v
section CUT
variable {h : pm_H} {d : Nat} {v : Int64} {w : Int32}
theorem sp_cut8 : Sp (d + 1) 97 h [.long v, .int w] (fun h' r => h' = h ∧ r = some (.long (cutv v w))) := by
  refine Sp_of aiX8_cut rfl rfl rfl ?_
  have L0 : pm_get (lv_args 0 [.long v, .int w]) 0 = some (.long v) := rfl
  have L2 : pm_get (lv_args 0 [.long v, .int w]) 2 = some (.int w) := rfl
  generalize lv_args 0 [.long v, .int w] = lv at L0 L2 ⊢
  refine E_il rfl L2 ?_
  by_cases e0 : w = 0
  · subst e0
    refine E_tsA (t := 28) rfl (by decide) (by decide) ?_
    refine E_ll rfl L0 ?_
    refine E_l2i rfl rfl ?_
    refine E_un rfl ?_
    refine E_i2l rfl ?_
    exact E_rtl rfl ⟨rfl, by unfold cutv; rw [if_pos rfl]⟩
  by_cases e1 : w = 1
  · subst e1
    refine E_tsA (t := 33) rfl (by decide) (by decide) ?_
    refine E_ll rfl L0 ?_
    refine E_l2i rfl rfl ?_
    refine E_un rfl ?_
    refine E_i2l rfl ?_
    exact E_rtl rfl ⟨rfl, by unfold cutv; rw [if_neg e0, if_pos rfl]⟩
  by_cases e2 : w = 2
  · subst e2
    refine E_tsA (t := 38) rfl (by decide) (by decide) ?_
    refine E_ll rfl L0 ?_
    refine E_l2i rfl rfl ?_
    refine E_i2l rfl ?_
    exact E_rtl rfl ⟨rfl, by unfold cutv; rw [if_neg e0, if_neg e1, if_pos rfl]⟩
  have n0 : w.toInt ≠ 0 := fun q => e0 (Int32.toInt_inj.mp q)
  have n1 : w.toInt ≠ 1 := fun q => e1 (Int32.toInt_inj.mp q)
  have n2 : w.toInt ≠ 2 := fun q => e2 (Int32.toInt_inj.mp q)
  have hz : (decide (w.toInt < 0) || decide (2 < w.toInt)) = true := by
    rw [Bool.or_eq_true, decide_eq_true_iff, decide_eq_true_iff]
    omega
  refine E_tsD rfl hz ?_
  refine E_ll rfl L0 ?_
  exact E_rtl rfl ⟨rfl, by unfold cutv; rw [if_neg e0, if_neg e1, if_neg e2]⟩
theorem sp_cut9 : Sp (d + 1) 236 h [.long v, .int w] (fun h' r => h' = h ∧ r = some (.long (cutv v w))) := by
  refine Sp_of aiX9_cut rfl rfl rfl ?_
  have L0 : pm_get (lv_args 0 [.long v, .int w]) 0 = some (.long v) := rfl
  have L2 : pm_get (lv_args 0 [.long v, .int w]) 2 = some (.int w) := rfl
  generalize lv_args 0 [.long v, .int w] = lv at L0 L2 ⊢
  refine E_il rfl L2 ?_
  by_cases e0 : w = 0
  · refine E_ifF rfl (decide_eq_false (fun q => q e0)) ?_
    refine E_ll rfl L0 ?_
    refine E_l2i rfl rfl ?_
    refine E_un rfl ?_
    refine E_i2l rfl ?_
    refine E_goto rfl ?_
    exact E_rtl rfl ⟨rfl, by unfold cutv; rw [if_pos e0]⟩
  refine E_ifT rfl (decide_eq_true e0) ?_
  refine E_il rfl L2 ?_
  refine E_c rfl ?_
  by_cases e1 : w = 1
  · refine E_icF rfl (decide_eq_false (fun q => q e1)) ?_
    refine E_ll rfl L0 ?_
    refine E_l2i rfl rfl ?_
    refine E_un rfl ?_
    refine E_i2l rfl ?_
    refine E_goto rfl ?_
    exact E_rtl rfl ⟨rfl, by unfold cutv; rw [if_neg e0, if_pos e1]⟩
  refine E_icT rfl (decide_eq_true e1) ?_
  refine E_il rfl L2 ?_
  refine E_c rfl ?_
  by_cases e2 : w = 2
  · refine E_icF rfl (decide_eq_false (fun q => q e2)) ?_
    refine E_ll rfl L0 ?_
    refine E_l2i rfl rfl ?_
    refine E_i2l rfl ?_
    refine E_goto rfl ?_
    exact E_rtl rfl ⟨rfl, by unfold cutv; rw [if_neg e0, if_neg e1, if_pos e2]⟩
  refine E_icT rfl (decide_eq_true e2) ?_
  refine E_ll rfl L0 ?_
  exact E_rtl rfl ⟨rfl, by unfold cutv; rw [if_neg e0, if_neg e1, if_neg e2]⟩
end CUT
/-- what write answers: f filled, m how many -/
noncomputable def wrv (f m : Nat → Int32) (x i : Int32) : Int32 := if 0 ≤ x.toInt ∧ x.toInt ≤ 3 then (if f x.toInt.toNat = 0 then -6 else if 0 ≤ i.toInt ∧ i.toInt < (m x.toInt.toNat).toInt then 0 else -7) else -2
theorem nJ_nat {s : Nat} (hs : s < 4) : (nJ s).toInt.toNat = s := by rw [nJ_toInt (by omega)]; omega
theorem nJ_sl {s : Nat} (hs : s < 4) : 0 ≤ (nJ s).toInt ∧ (nJ s).toInt ≤ 3 := by rw [nJ_toInt (by omega)]; omega
section WRV
variable {f m f' m' w w' : Nat → Int32} {s : Nat} {x i : Int32}
theorem wrv_6 (hs : s < 4) (e : f s = 0) : wrv f m (nJ s) i = -6 := by
  unfold wrv
  rw [if_pos (nJ_sl hs), nJ_nat hs, if_pos e]
theorem wrv_7 (hs : s < 4) (e : ¬ f s = 0) (b : ¬ (0 ≤ i.toInt ∧ i.toInt < (m s).toInt)) : wrv f m (nJ s) i = -7 := by
  unfold wrv
  rw [if_pos (nJ_sl hs), nJ_nat hs, if_neg e, if_neg b]
theorem wrv_0 (hs : s < 4) (e : ¬ f s = 0) (b : 0 ≤ i.toInt ∧ i.toInt < (m s).toInt) : wrv f m (nJ s) i = 0 := by
  unfold wrv
  rw [if_pos (nJ_sl hs), nJ_nat hs, if_neg e, if_pos b]
theorem wrv_2 (b : ¬ (0 ≤ x.toInt ∧ x.toInt ≤ 3)) : wrv f m x i = -2 := if_neg b
theorem wrv_eq (h1 : ∀ s, s < 4 → f s = f' s) (h2 : ∀ s, s < 4 → m s = m' s) : wrv f m x i = wrv f' m' x i := by
  unfold wrv
  by_cases q : 0 ≤ x.toInt ∧ x.toInt ≤ 3
  · rw [if_pos q, if_pos q, h1 _ (by omega), h2 _ (by omega)]
  · rw [if_neg q, if_neg q]
/-- what paste answers: w the width -/
noncomputable def pav (f w m : Nat → Int32) (x i y j n : Int32) : Int32 := if (0 ≤ x.toInt ∧ x.toInt ≤ 3) ∧ 0 ≤ y.toInt ∧ y.toInt ≤ 3 then (if f x.toInt.toNat = 0 ∨ f y.toInt.toNat = 0 then -6 else if w x.toInt.toNat = w y.toInt.toNat then (if (0 ≤ i.toInt ∧ 0 ≤ n.toInt ∧ i.toInt + n.toInt ≤ (m x.toInt.toNat).toInt) ∧ 0 ≤ j.toInt ∧ 0 ≤ n.toInt ∧ j.toInt + n.toInt ≤ (m y.toInt.toNat).toInt then 0 else -7) else -8) else -2
theorem pav_in {t : Nat} {j n : Int32} (hs : s < 4) (ht : t < 4) : pav f w m (nJ s) i (nJ t) j n = if f s = 0 ∨ f t = 0 then -6 else if w s = w t then (if (0 ≤ i.toInt ∧ 0 ≤ n.toInt ∧ i.toInt + n.toInt ≤ (m s).toInt) ∧ 0 ≤ j.toInt ∧ 0 ≤ n.toInt ∧ j.toInt + n.toInt ≤ (m t).toInt then 0 else -7) else -8 := by
  unfold pav
  rw [if_pos ⟨nJ_sl hs, nJ_sl ht⟩, nJ_nat hs, nJ_nat ht]
theorem pav_2 {y j n : Int32} (b : ¬ ((0 ≤ x.toInt ∧ x.toInt ≤ 3) ∧ 0 ≤ y.toInt ∧ y.toInt ≤ 3)) : pav f w m x i y j n = -2 := if_neg b
theorem pav_eq {y j n : Int32} (h1 : ∀ s, s < 4 → f s = f' s) (h2 : ∀ s, s < 4 → ¬ f' s = 0 → w s = w' s) (h3 : ∀ s, s < 4 → m s = m' s) : pav f w m x i y j n = pav f' w' m' x i y j n := by
  by_cases q : (0 ≤ x.toInt ∧ x.toInt ≤ 3) ∧ 0 ≤ y.toInt ∧ y.toInt ≤ 3
  · obtain ⟨s, hs, rfl⟩ : ∃ s, s < 4 ∧ x = nJ s := ⟨x.toInt.toNat, by omega, nJ_of q.1.1⟩
    obtain ⟨t, ht, rfl⟩ : ∃ s, s < 4 ∧ y = nJ s := ⟨y.toInt.toNat, by omega, nJ_of q.2.1⟩
    rw [pav_in hs ht, pav_in hs ht, h1 s hs, h1 t ht, h3 s hs, h3 t ht]
    by_cases z : f' s = 0 ∨ f' t = 0
    · rw [if_pos z, if_pos z]
    · rw [if_neg z, if_neg z, h2 s hs (fun e => z (.inl e)), h2 t ht (fun e => z (.inr e))]
  · rw [pav_2 q, pav_2 q]
end WRV
noncomputable def cf (h : pm_H) (s : Nat) : Int32 := gi h (54 + 2 * s) 1
noncomputable def cwd (h : pm_H) (s : Nat) : Int32 := gi h (54 + 2 * s) 2
noncomputable def cm (h : pm_H) (s : Nat) : Int32 := gi h (54 + 2 * s) 3
noncomputable def rf (h : pm_H) (s : Nat) : Int32 := if gi h 78 s = -1 then 0 else 1
noncomputable def rfw (h : pm_H) (s : Nat) : Int32 := gi h 78 s
noncomputable def rm (h : pm_H) (s : Nat) : Int32 := gi h 79 s
theorem rf_0 {h : pm_H} {s : Nat} (e : gi h 78 s = -1) : rf h s = 0 := if_pos e
theorem rf_1 {h : pm_H} {s : Nat} (e : ¬ gi h 78 s = -1) : ¬ rf h s = 0 := fun q => by
  unfold rf at q
  rw [if_neg e] at q
  exact absurd q (by decide)
theorem psv_pav {h : pm_H} {x i y j n r : Int32} (q : psv h x i y j n r) : r = pav (cf h) (cwd h) (cm h) x i y j n := by
  rcases q with ⟨q, rfl⟩ | ⟨s, t, hs, ht, rfl, rfl, q⟩
  · rw [pav_2 q]
  · rw [pav_in hs ht]
    rcases q with ⟨q, rfl⟩ | ⟨q, q2⟩
    · exact (if_pos q).symm
    rw [if_neg (show ¬ (cf h s = 0 ∨ cf h t = 0) from q)]
    rcases q2 with ⟨q2, rfl⟩ | ⟨q2, q3⟩
    · exact (if_neg q2).symm
    rw [if_pos (show cwd h s = cwd h t from q2)]
    rcases q3 with ⟨q3, rfl⟩ | ⟨q3, rfl⟩
    · exact (if_neg q3).symm
    · exact (if_pos q3).symm
section WR8
variable {h : pm_H} {d : Nat} {x i : Int32} {v : Int64}
theorem sp_write8 (hh : HH h) : Sp (d + 2) 203 h [.ref 0, .int x, .int i, .long v] (fun _ r => r = some (.int (wrv (cf h) (cm h) x i))) := by
  refine Sp_of aiX8_write rfl rfl rfl ?_
  have L0 : pm_get (lv_args 0 [.ref 0, .int x, .int i, .long v]) 0 = some (.ref 0) := rfl
  have L1 : pm_get (lv_args 0 [.ref 0, .int x, .int i, .long v]) 1 = some (.int x) := rfl
  have L2 : pm_get (lv_args 0 [.ref 0, .int x, .int i, .long v]) 2 = some (.int i) := rfl
  have L3 : pm_get (lv_args 0 [.ref 0, .int x, .int i, .long v]) 3 = some (.long v) := rfl
  generalize lv_args 0 [.ref 0, .int x, .int i, .long v] = lv at L0 L1 L2 L3 ⊢
  have z0 : (0 : Int32).toInt = 0 := rfl
  refine E_il rfl L1 ?_
  refine E_call rfl (sp_isSlot8 (d := d)) (chkS rfl (by show 0 ≤ 8; decide)) (fun h1 r1 => ?_)
  rintro ⟨e1, rv⟩
  rw [e1]
  rcases rv with ⟨a0, a3, hr⟩ | ⟨an, hr⟩
  · rw [hr]
    refine E_ifT rfl (by decide) ?_
    obtain ⟨s, hs, rfl⟩ : ∃ s, s < 4 ∧ x = nJ s := ⟨x.toInt.toNat, by omega, nJ_of a0⟩
    obtain ⟨S1, S2, S3, S4, S5, S6⟩ := isS_at s hs
    refine E_al rfl L0 ?_
    refine E_ogr rfl hh rfl (q := 53) rfl ?_
    refine E_il rfl L1 ?_
    refine E_aal rfl hh rfl (slot_at s hs) (by decide) ?_
    refine E_asw rfl (fun lv1 M5 kp => ?_)
    have M2 := kp 2 _ (by decide) (by decide) L2
    have M3 := kp 3 _ (by decide) (by decide) L3
    refine E_al rfl M5 ?_
    refine E_ogf rfl hh S1 S4 rfl ?_
    by_cases b1 : gi h (54 + 2 * s) 1 = 0
    · refine E_ifF rfl (decide_eq_false (fun q => q b1)) ?_
      refine E_c rfl ?_
      exact E_rti rfl (by rw [wrv_6 hs b1])
    refine E_ifT rfl (decide_eq_true b1) ?_
    have g := (ld_gi hh S6).2
    dsimp only at g
    have no : ∀ {lv : List (Nat × Value)}, ¬ (0 ≤ i.toInt ∧ i.toInt < (gi h (54 + 2 * s) 3).toInt) → Ends (pm_at tX8_write) (pm_Rt pm_P (d + 1)) (42, lv, [], h, 0, 0) (fun _ r => r = some (.int (wrv (cf h) (cm h) (nJ s) i))) := by
      intro lv hn
      refine E_c rfl ?_
      exact E_rti rfl (by rw [wrv_7 hs b1 hn])
    refine E_il rfl M2 ?_
    by_cases b2 : i < 0
    · have q := Int32.lt_iff_toInt_lt.mp b2
      refine E_ifT rfl (decide_eq_true b2) ?_
      exact no (by omega)
    have q2 : ¬ i.toInt < (0 : Int32).toInt := fun z => b2 (Int32.lt_iff_toInt_lt.mpr z)
    refine E_ifF rfl (decide_eq_false b2) ?_
    refine E_il rfl M2 ?_
    refine E_al rfl M5 ?_
    refine E_ogf rfl hh S1 S6 rfl ?_
    by_cases b3 : i < gi h (54 + 2 * s) 3
    · have q3 := Int32.lt_iff_toInt_lt.mp b3
      refine E_icT rfl (decide_eq_true b3) ?_
      obtain ⟨k, hk, rfl⟩ : ∃ k, k < 60 ∧ i = nJ k := ⟨i.toInt.toNat, by omega, nJ_of (by omega)⟩
      refine E_al rfl M5 ?_
      refine E_ogr rfl hh S1 S2 ?_
      refine E_il rfl M2 ?_
      refine E_ll rfl M3 ?_
      refine E_al rfl M5 ?_
      refine E_ogf rfl hh S1 S5 rfl ?_
      refine E_call rfl (sp_cut8 (d := d)) (chkS rfl (by show 2 ≤ 8; decide)) (fun h3 r3 => ?_)
      rintro ⟨e3, f3⟩
      rw [e3, f3]
      refine E_las rfl hh S3 hk (by decide) (fun h4 _ _ _ => ?_)
      refine E_c rfl ?_
      exact E_rti rfl (by rw [wrv_0 hs b1 ⟨by omega, q3⟩])
    · have q3 : ¬ i.toInt < (gi h (54 + 2 * s) 3).toInt := fun z => b3 (Int32.lt_iff_toInt_lt.mpr z)
      refine E_icF rfl (decide_eq_false b3) ?_
      exact no (fun z => q3 z.2)
  · rw [hr]
    refine E_ifF rfl (by decide) ?_
    refine E_c rfl ?_
    exact E_rti rfl (by rw [wrv_2 an])
theorem sp_write9 (hh : HH h) : Sp (d + 3) 380 h [.ref 77, .int x, .int i, .long v] (fun _ r => r = some (.int (wrv (rf h) (rm h) x i))) := by
  refine Sp_of aiX9_write rfl rfl rfl ?_
  have L0 : pm_get (lv_args 0 [.ref 77, .int x, .int i, .long v]) 0 = some (.ref 77) := rfl
  have L1 : pm_get (lv_args 0 [.ref 77, .int x, .int i, .long v]) 1 = some (.int x) := rfl
  have L2 : pm_get (lv_args 0 [.ref 77, .int x, .int i, .long v]) 2 = some (.int i) := rfl
  have L3 : pm_get (lv_args 0 [.ref 77, .int x, .int i, .long v]) 3 = some (.long v) := rfl
  generalize lv_args 0 [.ref 77, .int x, .int i, .long v] = lv at L0 L1 L2 L3 ⊢
  have o1 : (1 : Int32).toInt = 1 := rfl
  refine E_al rfl L0 ?_
  refine E_ci 0 rfl (by decide) ?_
  refine E_pf rfl hh rfl ?_
  have hg : HH (pt h 77 0 (nJ 0)) := HH_ptn hh rfl (by omega) (by omega) (by omega)
  refine E_il rfl L1 ?_
  refine E_call rfl sp_isSlot (chkS rfl (by show 0 ≤ 8; decide)) (fun h1 r1 => ?_)
  rintro ⟨e1, f1⟩
  rw [e1, f1]
  by_cases b0 : 0 ≤ x.toInt ∧ x.toInt ≤ 3
  · refine E_ifT rfl (by rw [zb_T b0]; rfl) ?_
    obtain ⟨s, hs, rfl⟩ : ∃ s, s < 4 ∧ x = nJ s := ⟨x.toInt.toNat, by omega, nJ_of b0.1⟩
    refine E_al rfl L0 ?_
    refine E_gr rfl hg (q := 78) rfl ?_
    refine E_il rfl L1 ?_
    refine E_ial (v := gi h 78 s) rfl hg rfl (by omega) (by decide) (gi_ne (by omega)) ?_
    refine E_c rfl ?_
    by_cases b1 : gi h 78 s = -1
    · refine E_icF rfl (decide_eq_false (fun q => q b1)) ?_
      refine E_c rfl ?_
      exact E_rti rfl (by rw [wrv_6 hs (rf_0 b1)])
    refine E_icT rfl (decide_eq_true b1) ?_
    refine E_il rfl L2 ?_
    refine E_i2l rfl ?_
    refine E_c rfl ?_
    refine E_al rfl L0 ?_
    refine E_gr rfl hg (q := 79) rfl ?_
    refine E_il rfl L1 ?_
    refine E_ial (v := gi h 79 s) rfl hg rfl (by omega) (by decide) (gi_ne (by omega)) ?_
    refine E_c rfl ?_
    refine E_bin rfl rfl ?_
    refine E_i2l rfl ?_
    have g := (ld_gi hh (a := 79) (k := s) (bd_u rfl (by omega))).2
    dsimp only at g
    have es : (gi h 79 s - 1).toInt = (gi h 79 s).toInt - 1 := by
      rw [Int32.toInt_sub, o1]
      exact Int.bmod_eq_of_le (by omega) (by omega)
    refine E_call rfl (sp_in (a := i.toInt) (b := 0) (c := (gi h 79 s).toInt - 1) (i2l_toInt _) rfl (by rw [i2l_toInt]; exact es)) (chkS rfl (by show 0 ≤ 8; decide)) (fun h2 r2 => ?_)
    rintro ⟨e2, f2⟩
    rw [e2, f2]
    by_cases b2 : 0 ≤ i.toInt ∧ i.toInt ≤ (gi h 79 s).toInt - 1
    · refine E_ifT rfl (by rw [zb_T b2]; rfl) ?_
      obtain ⟨k, hk, rfl⟩ : ∃ k, k < 60 ∧ i = nJ k := ⟨i.toInt.toNat, by omega, nJ_of b2.1⟩
      refine E_al rfl L0 ?_
      refine E_gr rfl hg (q := 80) rfl ?_
      refine E_ci 60 rfl (by decide) ?_
      refine E_il rfl L1 ?_
      refine E_bin rfl (nJ_mul _ _) ?_
      refine E_il rfl L2 ?_
      refine E_bin rfl (nJ_add _ _) ?_
      refine E_ll rfl L3 ?_
      refine E_al rfl L0 ?_
      refine E_gr rfl hg (q := 78) rfl ?_
      refine E_il rfl L1 ?_
      refine E_ial rfl hg rfl (by omega) (by decide) rfl ?_
      refine E_call rfl (sp_cut9 (d := d + 1)) (chkS rfl (by show 2 ≤ 8; decide)) (fun h3 r3 => ?_)
      rintro ⟨e3, f3⟩
      rw [e3, f3]
      refine E_las rfl hg rfl (by omega) (by decide) (fun h4 _ _ _ => ?_)
      refine E_c rfl ?_
      exact E_rti rfl (by rw [wrv_0 hs (rf_1 b1) ⟨b2.1, by have := b2.2; show _ < (gi h 79 s).toInt; omega⟩])
    · refine E_ifF rfl (by rw [zb_F b2]; rfl) ?_
      refine E_c rfl ?_
      exact E_rti rfl (by rw [wrv_7 hs (rf_1 b1) (fun z => b2 ⟨z.1, by have : _ < (gi h 79 s).toInt := z.2; omega⟩)])
  · refine E_ifF rfl (by rw [zb_F b0]; rfl) ?_
    refine E_c rfl ?_
    exact E_rti rfl (by rw [wrv_2 b0])
end WR8
/-! the reference's paste -/
theorem i2l_add (x y : Int32) : (x.toInt64 + y.toInt64).toInt = x.toInt + y.toInt := by
  have := ai_lo x
  have := ai_hi x
  have := ai_lo y
  have := ai_hi y
  rw [Int64.toInt_add, i2l_toInt, i2l_toInt]
  exact Int.bmod_eq_of_le (by omega) (by omega)
section PA9
variable {d s t a b n : Nat}
theorem p9_b (ht : t < 4) (hb : b + n ≤ 60) (j : Nat) : ∀ {h : pm_H} {c : Nat} (lv : List (Nat × Value)), c + j = n → HH h → pm_get lv 0 = some (.ref 77) → pm_get lv 3 = some (.int (nJ t)) → pm_get lv 4 = some (.int (nJ b)) → pm_get lv 5 = some (.int (nJ n)) → pm_get lv 6 = some (.int (nJ c)) → Ends (pm_at tX9_paste) (pm_Rt pm_P d) (155, lv, [], h, 0, 0) (fun _ r => r = some (.int 0)) := by
  induction j with
  | zero =>
    intro h c lv hj hh L0 L3 L4 L5 L6
    refine E_il rfl L6 ?_
    refine E_il rfl L5 ?_
    refine E_icT rfl (decide_eq_true ((nJ_le (by omega) (by omega)).mpr (by omega))) ?_
    refine E_c rfl ?_
    exact E_rti rfl rfl
  | succ j ih =>
    intro h c lv hj hh L0 L3 L4 L5 L6
    refine E_il rfl L6 ?_
    refine E_il rfl L5 ?_
    refine E_icF rfl (decide_eq_false (fun q => absurd ((nJ_le (by omega) (by omega)).mp q) (by omega))) ?_
    refine E_al rfl L0 ?_
    refine E_gr rfl hh (q := 80) rfl ?_
    refine E_ci 60 rfl (by decide) ?_
    refine E_il rfl L3 ?_
    refine E_bin rfl (nJ_mul _ _) ?_
    refine E_il rfl L4 ?_
    refine E_bin rfl (nJ_add _ _) ?_
    refine E_il rfl L6 ?_
    refine E_bin rfl (nJ_add _ _) ?_
    refine E_al rfl L0 ?_
    refine E_gr rfl hh (q := 81) rfl ?_
    refine E_il rfl L6 ?_
    refine E_lal rfl hh rfl (by omega) (by decide) ?_
    refine E_las rfl hh rfl (by omega) (by decide) (fun h1 hh1 _ _ => ?_)
    refine E_inc rfl L6 (nJ_inc _) (fun lv1 K6 kp => ?_)
    refine E_goto rfl ?_
    exact ih lv1 (by omega) hh1 (kp 0 _ (by decide) rfl L0) (kp 3 _ (by decide) rfl L3) (kp 4 _ (by decide) rfl L4) (kp 5 _ (by decide) rfl L5) K6
theorem p9_a (hs : s < 4) (ht : t < 4) (ha : a + n ≤ 60) (hb : b + n ≤ 60) (j : Nat) : ∀ {h : pm_H} {c : Nat} (lv : List (Nat × Value)), c + j = n → HH h → pm_get lv 0 = some (.ref 77) → pm_get lv 1 = some (.int (nJ s)) → pm_get lv 2 = some (.int (nJ a)) → pm_get lv 3 = some (.int (nJ t)) → pm_get lv 4 = some (.int (nJ b)) → pm_get lv 5 = some (.int (nJ n)) → pm_get lv 6 = some (.int (nJ c)) → Ends (pm_at tX9_paste) (pm_Rt pm_P d) (118, lv, [], h, 0, 0) (fun _ r => r = some (.int 0)) := by
  induction j with
  | zero =>
    intro h c lv hj hh L0 L1 L2 L3 L4 L5 L6
    refine E_il rfl L6 ?_
    refine E_il rfl L5 ?_
    refine E_icT rfl (decide_eq_true ((nJ_le (by omega) (by omega)).mpr (by omega))) ?_
    refine E_ci 0 rfl (by decide) ?_
    refine E_is rfl (fun lv1 K6 kp => ?_)
    exact p9_b ht hb n (c := 0) lv1 (by omega) hh (kp 0 _ (by decide) rfl L0) (kp 3 _ (by decide) rfl L3) (kp 4 _ (by decide) rfl L4) (kp 5 _ (by decide) rfl L5) K6
  | succ j ih =>
    intro h c lv hj hh L0 L1 L2 L3 L4 L5 L6
    refine E_il rfl L6 ?_
    refine E_il rfl L5 ?_
    refine E_icF rfl (decide_eq_false (fun q => absurd ((nJ_le (by omega) (by omega)).mp q) (by omega))) ?_
    refine E_al rfl L0 ?_
    refine E_gr rfl hh (q := 81) rfl ?_
    refine E_il rfl L6 ?_
    refine E_al rfl L0 ?_
    refine E_gr rfl hh (q := 80) rfl ?_
    refine E_ci 60 rfl (by decide) ?_
    refine E_il rfl L1 ?_
    refine E_bin rfl (nJ_mul _ _) ?_
    refine E_il rfl L2 ?_
    refine E_bin rfl (nJ_add _ _) ?_
    refine E_il rfl L6 ?_
    refine E_bin rfl (nJ_add _ _) ?_
    refine E_lal rfl hh rfl (by omega) (by decide) ?_
    refine E_las rfl hh rfl (by omega) (by decide) (fun h1 hh1 _ _ => ?_)
    refine E_inc rfl L6 (nJ_inc _) (fun lv1 K6 kp => ?_)
    refine E_goto rfl ?_
    exact ih lv1 (by omega) hh1 (kp 0 _ (by decide) rfl L0) (kp 1 _ (by decide) rfl L1) (kp 2 _ (by decide) rfl L2) (kp 3 _ (by decide) rfl L3) (kp 4 _ (by decide) rfl L4) (kp 5 _ (by decide) rfl L5) K6
theorem sp_paste9 {h : pm_H} {x i y j n : Int32} (hh : HH h) : Sp (d + 3) 323 h [.ref 77, .int x, .int i, .int y, .int j, .int n] (fun _ r => r = some (.int (pav (rf h) (rfw h) (rm h) x i y j n))) := by
  refine Sp_of aiX9_paste rfl rfl rfl ?_
  have L0 : pm_get (lv_args 0 [.ref 77, .int x, .int i, .int y, .int j, .int n]) 0 = some (.ref 77) := rfl
  have L1 : pm_get (lv_args 0 [.ref 77, .int x, .int i, .int y, .int j, .int n]) 1 = some (.int x) := rfl
  have L2 : pm_get (lv_args 0 [.ref 77, .int x, .int i, .int y, .int j, .int n]) 2 = some (.int i) := rfl
  have L3 : pm_get (lv_args 0 [.ref 77, .int x, .int i, .int y, .int j, .int n]) 3 = some (.int y) := rfl
  have L4 : pm_get (lv_args 0 [.ref 77, .int x, .int i, .int y, .int j, .int n]) 4 = some (.int j) := rfl
  have L5 : pm_get (lv_args 0 [.ref 77, .int x, .int i, .int y, .int j, .int n]) 5 = some (.int n) := rfl
  generalize lv_args 0 [.ref 77, .int x, .int i, .int y, .int j, .int n] = lv at L0 L1 L2 L3 L4 L5 ⊢
  have z0 : (0 : Int32).toInt = 0 := rfl
  refine E_al rfl L0 ?_
  refine E_ci 0 rfl (by decide) ?_
  refine E_pf rfl hh rfl ?_
  have hg : HH (pt h 77 0 (nJ 0)) := HH_ptn hh rfl (by omega) (by omega) (by omega)
  have no : ¬ ((0 ≤ x.toInt ∧ x.toInt ≤ 3) ∧ 0 ≤ y.toInt ∧ y.toInt ≤ 3) → Ends (pm_at tX9_paste) (pm_Rt pm_P (d + 2)) (19, lv, [], pt h 77 0 (nJ 0), 0, 0) (fun _ r => r = some (.int (pav (rf h) (rfw h) (rm h) x i y j n))) := by
    intro hn
    refine E_c rfl ?_
    exact E_rti rfl (by rw [pav_2 hn])
  refine E_il rfl L1 ?_
  refine E_call rfl sp_isSlot (chkS rfl (by show 0 ≤ 8; decide)) (fun h1 r1 => ?_)
  rintro ⟨e1, f1⟩
  rw [e1, f1]
  by_cases b0 : 0 ≤ x.toInt ∧ x.toInt ≤ 3
  · refine E_ifF rfl (by rw [zb_T b0]; rfl) ?_
    refine E_il rfl L3 ?_
    refine E_call rfl sp_isSlot (chkS rfl (by show 0 ≤ 8; decide)) (fun h2 r2 => ?_)
    rintro ⟨e2, f2⟩
    rw [e2, f2]
    by_cases c0 : 0 ≤ y.toInt ∧ y.toInt ≤ 3
    · refine E_ifT rfl (by rw [zb_T c0]; rfl) ?_
      obtain ⟨s, hs, rfl⟩ : ∃ s, s < 4 ∧ x = nJ s := ⟨x.toInt.toNat, by omega, nJ_of b0.1⟩
      obtain ⟨t, ht, rfl⟩ : ∃ s, s < 4 ∧ y = nJ s := ⟨y.toInt.toNat, by omega, nJ_of c0.1⟩
      rw [pav_in hs ht]
      refine E_al rfl L0 ?_
      refine E_gr rfl hg (q := 78) rfl ?_
      refine E_il rfl L1 ?_
      refine E_ial (v := gi h 78 s) rfl hg rfl (by omega) (by decide) (gi_ne (by omega)) ?_
      refine E_c rfl ?_
      by_cases b1 : gi h 78 s = -1
      · refine E_icT rfl (decide_eq_true b1) ?_
        refine E_c rfl ?_
        exact E_rti rfl (by rw [if_pos (.inl (rf_0 b1))])
      refine E_icF rfl (decide_eq_false b1) ?_
      refine E_al rfl L0 ?_
      refine E_gr rfl hg (q := 78) rfl ?_
      refine E_il rfl L3 ?_
      refine E_ial (v := gi h 78 t) rfl hg rfl (by omega) (by decide) (gi_ne (by omega)) ?_
      refine E_c rfl ?_
      by_cases b2 : gi h 78 t = -1
      · refine E_icF rfl (decide_eq_false (fun q => q b2)) ?_
        refine E_c rfl ?_
        exact E_rti rfl (by rw [if_pos (.inr (rf_0 b2))])
      refine E_icT rfl (decide_eq_true b2) ?_
      rw [if_neg (fun q : rf h s = 0 ∨ rf h t = 0 => q.elim (rf_1 b1) (rf_1 b2))]
      refine E_al rfl L0 ?_
      refine E_gr rfl hg (q := 78) rfl ?_
      refine E_il rfl L1 ?_
      refine E_ial (v := gi h 78 s) rfl hg rfl (by omega) (by decide) (gi_ne (by omega)) ?_
      refine E_al rfl L0 ?_
      refine E_gr rfl hg (q := 78) rfl ?_
      refine E_il rfl L3 ?_
      refine E_ial (v := gi h 78 t) rfl hg rfl (by omega) (by decide) (gi_ne (by omega)) ?_
      by_cases b3 : gi h 78 s = gi h 78 t
      · refine E_icT rfl (decide_eq_true b3) ?_
        rw [if_pos (show rfw h s = rfw h t from b3)]
        have g1 := (ld_gi hh (a := 79) (k := s) (bd_u rfl (by omega))).2
        have g2 := (ld_gi hh (a := 79) (k := t) (bd_u rfl (by omega))).2
        dsimp only at g1 g2
        have no7 : ¬ ((0 ≤ i.toInt ∧ 0 ≤ n.toInt ∧ i.toInt + n.toInt ≤ (rm h s).toInt) ∧ 0 ≤ j.toInt ∧ 0 ≤ n.toInt ∧ j.toInt + n.toInt ≤ (rm h t).toInt) → Ends (pm_at tX9_paste) (pm_Rt pm_P (d + 2)) (112, lv, [], pt h 77 0 (nJ 0), 0, 0) (fun _ r => r = some (.int (if (0 ≤ i.toInt ∧ 0 ≤ n.toInt ∧ i.toInt + n.toInt ≤ (rm h s).toInt) ∧ 0 ≤ j.toInt ∧ 0 ≤ n.toInt ∧ j.toInt + n.toInt ≤ (rm h t).toInt then 0 else -7))) := by
          intro hn
          refine E_c rfl ?_
          exact E_rti rfl (by rw [if_neg hn])
        have r1 : rm h s = gi h 79 s := rfl
        have r2 : rm h t = gi h 79 t := rfl
        rw [r1, r2] at no7 ⊢
        refine E_il rfl L2 ?_
        by_cases k1 : i < 0
        · have q := Int32.lt_iff_toInt_lt.mp k1
          refine E_ifT rfl (decide_eq_true k1) ?_
          exact no7 (by omega)
        have q1 : ¬ i.toInt < (0 : Int32).toInt := fun z => k1 (Int32.lt_iff_toInt_lt.mpr z)
        refine E_ifF rfl (decide_eq_false k1) ?_
        refine E_il rfl L4 ?_
        by_cases k2 : j < 0
        · have q := Int32.lt_iff_toInt_lt.mp k2
          refine E_ifT rfl (decide_eq_true k2) ?_
          exact no7 (by omega)
        have q2 : ¬ j.toInt < (0 : Int32).toInt := fun z => k2 (Int32.lt_iff_toInt_lt.mpr z)
        refine E_ifF rfl (decide_eq_false k2) ?_
        refine E_il rfl L5 ?_
        by_cases k3 : n < 0
        · have q := Int32.lt_iff_toInt_lt.mp k3
          refine E_ifT rfl (decide_eq_true k3) ?_
          exact no7 (by omega)
        have q3 : ¬ n.toInt < (0 : Int32).toInt := fun z => k3 (Int32.lt_iff_toInt_lt.mpr z)
        refine E_ifF rfl (decide_eq_false k3) ?_
        refine E_il rfl L2 ?_
        refine E_i2l rfl ?_
        refine E_il rfl L5 ?_
        refine E_i2l rfl ?_
        refine E_lbin rfl ?_
        refine E_al rfl L0 ?_
        refine E_gr rfl hg (q := 79) rfl ?_
        refine E_il rfl L1 ?_
        refine E_ial (v := gi h 79 s) rfl hg rfl (by omega) (by decide) (gi_ne (by omega)) ?_
        refine E_i2l rfl ?_
        refine E_lcmp rfl ?_
        by_cases k4 : (gi h 79 s).toInt < i.toInt + n.toInt
        · refine E_ifT rfl (decide_eq_true ((lg_cmp_gt _ _).mpr (by rw [Int64.lt_iff_toInt_lt, i2l_add, i2l_toInt]; omega))) ?_
          exact no7 (by omega)
        refine E_ifF rfl (decide_eq_false (fun q => absurd ((lg_cmp_gt _ _).mp q) (by rw [Int64.lt_iff_toInt_lt, i2l_add, i2l_toInt]; omega))) ?_
        refine E_il rfl L4 ?_
        refine E_i2l rfl ?_
        refine E_il rfl L5 ?_
        refine E_i2l rfl ?_
        refine E_lbin rfl ?_
        refine E_al rfl L0 ?_
        refine E_gr rfl hg (q := 79) rfl ?_
        refine E_il rfl L3 ?_
        refine E_ial (v := gi h 79 t) rfl hg rfl (by omega) (by decide) (gi_ne (by omega)) ?_
        refine E_i2l rfl ?_
        refine E_lcmp rfl ?_
        by_cases k5 : j.toInt + n.toInt ≤ (gi h 79 t).toInt
        · refine E_ifT rfl (decide_eq_true ((lg_cmp_le _ _).mpr (by rw [Int64.le_iff_toInt_le, i2l_add, i2l_toInt]; omega))) ?_
          rw [if_pos (by omega)]
          obtain ⟨a, ha, rfl⟩ : ∃ k, k ≤ 60 ∧ i = nJ k := ⟨i.toInt.toNat, by omega, nJ_of (by omega)⟩
          obtain ⟨b, hb, rfl⟩ : ∃ k, k ≤ 60 ∧ j = nJ k := ⟨j.toInt.toNat, by omega, nJ_of (by omega)⟩
          obtain ⟨m, hm, rfl⟩ : ∃ k, k ≤ 60 ∧ n = nJ k := ⟨n.toInt.toNat, by omega, nJ_of (by omega)⟩
          have ea := nJ_toInt (n := a) (by omega)
          have eb := nJ_toInt (n := b) (by omega)
          have em := nJ_toInt (n := m) (by omega)
          refine E_ci 0 rfl (by decide) ?_
          refine E_is rfl (fun lv1 K6 kp => ?_)
          exact p9_a hs ht (by omega) (by omega) m (c := 0) lv1 (by omega) hg (kp 0 _ (by decide) rfl L0) (kp 1 _ (by decide) rfl L1) (kp 2 _ (by decide) rfl L2) (kp 3 _ (by decide) rfl L3) (kp 4 _ (by decide) rfl L4) (kp 5 _ (by decide) rfl L5) K6
        · refine E_ifF rfl (decide_eq_false (fun q => absurd ((lg_cmp_le _ _).mp q) (by rw [Int64.le_iff_toInt_le, i2l_add, i2l_toInt]; omega))) ?_
          exact no7 (by omega)
      · refine E_icF rfl (decide_eq_false b3) ?_
        rw [if_neg (show ¬ rfw h s = rfw h t from b3)]
        refine E_c rfl ?_
        exact E_rti rfl rfl
    · refine E_ifF rfl (by rw [zb_F c0]; rfl) ?_
      exact no (fun q => c0 q.2)
  · refine E_ifT rfl (by rw [zb_F b0]; rfl) ?_
    exact no (fun q => b0 q.1)
end PA9
