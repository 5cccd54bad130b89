section
section IM9
variable {h : pm_H} {d : Nat} {x : Int32}
noncomputable def IX9 (h : pm_H) (x : Int32) (h' : pm_H) : Prop := (∃ k, k < 3 ∧ x = nJ k ∧ CP9 (k + 1) 0 h h' ∧ ∀ r, r ≤ 3 → r ≠ k + 1 → KE9 r h h') ∨ (¬ (0 ≤ x.toInt ∧ x.toInt ≤ 2) ∧ ∀ r, KE9 r h h')
noncomputable def BX9 (h : pm_H) (x : Int32) (h' : pm_H) : Prop := (∃ k, k < 3 ∧ x = nJ k ∧ ¬ gi h 88 k = 0 ∧ CP9 0 (k + 1) h h' ∧ ∀ r, r ≤ 3 → r ≠ 0 → KE9 r h h') ∨ (¬ (∃ k, k < 3 ∧ x = nJ k ∧ ¬ gi h 88 k = 0) ∧ ∀ r, KE9 r h h')
theorem KE9_77 {r : Nat} {v : Int32} {j : Nat} : KE9 r h (pt h 77 j v) := ⟨gi_ne (by omega), fun _ _ => gi_ne (by omega), fun _ _ => gi_ne (by omega), fun _ _ => gi_ne (by omega), fun _ _ => gi_ne (by omega)⟩
theorem sp_imageX9 (hh0 : HH h) : Sp (d + 4) 260 h [.ref 77, .int x] (fun h' _ => IX9 h x h') := by
  refine Sp_of aiX9_image rfl rfl rfl ?_
  have L0 : pm_get (lv_args 0 [.ref 77, .int x]) 0 = some (.ref 77) := rfl
  have L1 : pm_get (lv_args 0 [.ref 77, .int x]) 1 = some (.int x) := rfl
  generalize lv_args 0 [.ref 77, .int x] = lv at L0 L1 ⊢
  refine E_al rfl L0 ?_
  refine E_ci 0 rfl (by decide) ?_
  refine E_pf rfl hh0 rfl ?_
  have hh1 : HH (pt h 77 0 (nJ 0)) := HH_ptn hh0 rfl (by omega) (by omega) (by omega)
  have z : ∀ a k, a ≠ 77 → gi (pt h 77 0 (nJ 0)) a k = gi h a k := fun a k ha => gi_ne (fun q => absurd q ha)
  have kz : ∀ r, KE9 r h (pt h 77 0 (nJ 0)) := fun r => KE9_77
  generalize pt h 77 0 (nJ 0) = g at hh1 z kz ⊢
  refine E_il rfl L1 ?_
  refine E_i2l rfl ?_
  refine E_c rfl ?_
  refine E_c rfl ?_
  refine E_call rfl (Sp_le (by omega) (sp_in (d := d) (a := x.toInt) (b := 0) (c := 2) (i2l_toInt _) rfl rfl)) (chkS rfl (by show 0 ≤ 8; decide)) (fun h2 r2 => ?_)
  rintro ⟨e2, f2⟩
  rw [e2, f2]
  by_cases hb3 : 0 ≤ x.toInt ∧ x.toInt ≤ 2
  · refine E_ifT rfl (by rw [zb_T hb3]; rfl) ?_
    obtain ⟨k, hk, rfl⟩ := nJ_of2 (n := 2) hb3.1 hb3.2
    refine E_al rfl L0 ?_
    refine E_ci 0 rfl (by decide) ?_
    refine E_ci 1 rfl (by decide) ?_
    refine E_il rfl L1 ?_
    refine E_bin rfl (nJ_add _ _) ?_
    refine E_call rfl (Sp_le (by omega) (sp_cpY (d := d) (a := 0) (b := 1 + k) hh1 (by omega) (by omega) (by omega))) (chk77 hh1 rfl rfl (by show 0 ≤ 8; decide)) (fun h4 r4 => ?_)
    rintro ⟨e4, hh4, f4, c4, k4⟩
    rw [e4]
    refine E_al rfl L0 ?_
    refine E_gr rfl hh4 (q := 88) rfl ?_
    refine E_il rfl L1 ?_
    refine E_ci 1 rfl (by decide) ?_
    refine E_zas rfl hh4 (by omega) ?_
    refine E_ci 0 rfl (by decide) ?_
    have w : ∀ a i, a ≠ 88 → gi (pt h4 88 k 1) a i = gi h4 a i := fun a i ha => gi_ne (fun q => absurd q ha)
    rw [show 1 + k = k + 1 by omega] at c4 k4
    refine E_rti rfl (.inl ⟨k, by omega, rfl, ⟨?_, fun i hi => ?_, fun i hi => ?_, fun i hi => ?_, fun i hi => ?_⟩, fun r hr hne => ⟨?_, fun i hi => ?_, fun i hi => ?_, fun i hi => ?_, fun i hi => ?_⟩⟩)
    · rw [w _ _ (by omega), c4.1, z _ _ (by omega)]
    · rw [w _ _ (by omega), c4.2.1 i hi, z _ _ (by omega)]
    · rw [w _ _ (by omega), c4.2.2.1 i hi, z _ _ (by omega)]
    · rw [w _ _ (by omega), c4.2.2.2.1 i hi, z _ _ (by omega)]
    · rw [w _ _ (by omega), c4.2.2.2.2 i hi, z _ _ (by omega)]
    · rw [w _ _ (by omega), (k4 r (by omega) hne).1, z _ _ (by omega)]
    · rw [w _ _ (by omega), (k4 r (by omega) hne).2.1 i hi, z _ _ (by omega)]
    · rw [w _ _ (by omega), (k4 r (by omega) hne).2.2.1 i hi, z _ _ (by omega)]
    · rw [w _ _ (by omega), (k4 r (by omega) hne).2.2.2.1 i hi, z _ _ (by omega)]
    · rw [w _ _ (by omega), (k4 r (by omega) hne).2.2.2.2 i hi, z _ _ (by omega)]
  · refine E_ifF rfl (by rw [zb_F hb3]; rfl) ?_
    refine E_c rfl ?_
    exact E_rti rfl (.inr ⟨hb3, kz⟩)
theorem sp_backX9 (hh0 : HH h) : Sp (d + 4) 212 h [.ref 77, .int x] (fun h' _ => BX9 h x h') := by
  refine Sp_of aiX9_back rfl rfl rfl ?_
  have L0 : pm_get (lv_args 0 [.ref 77, .int x]) 0 = some (.ref 77) := rfl
  have L1 : pm_get (lv_args 0 [.ref 77, .int x]) 1 = some (.int x) := rfl
  generalize lv_args 0 [.ref 77, .int x] = lv at L0 L1 ⊢
  refine E_al rfl L0 ?_
  refine E_ci 0 rfl (by decide) ?_
  refine E_pf rfl hh0 rfl ?_
  have hh1 : HH (pt h 77 0 (nJ 0)) := HH_ptn hh0 rfl (by omega) (by omega) (by omega)
  have z : ∀ a k, a ≠ 77 → gi (pt h 77 0 (nJ 0)) a k = gi h a k := fun a k ha => gi_ne (fun q => absurd q ha)
  have kz : ∀ r, KE9 r h (pt h 77 0 (nJ 0)) := fun r => KE9_77
  generalize pt h 77 0 (nJ 0) = g at hh1 z kz ⊢
  refine E_il rfl L1 ?_
  refine E_i2l rfl ?_
  refine E_c rfl ?_
  refine E_c rfl ?_
  refine E_call rfl (Sp_le (by omega) (sp_in (d := d) (a := x.toInt) (b := 0) (c := 2) (i2l_toInt _) rfl rfl)) (chkS rfl (by show 0 ≤ 8; decide)) (fun h2 r2 => ?_)
  rintro ⟨e2, f2⟩
  rw [e2, f2]
  by_cases hb3 : 0 ≤ x.toInt ∧ x.toInt ≤ 2
  · refine E_ifT rfl (by rw [zb_T hb3]; rfl) ?_
    obtain ⟨k, hk, rfl⟩ := nJ_of2 (n := 2) hb3.1 hb3.2
    refine E_al rfl L0 ?_
    refine E_gr rfl hh1 (q := 88) rfl ?_
    refine E_il rfl L1 ?_
    refine E_zalB (v := gi h 88 k) rfl hh1 rfl (by omega) (by decide) (z 88 k (by omega)) ?_
    by_cases hz : gi h 88 k = 0
    · refine E_ifF rfl (decide_eq_false (fun q => q hz)) ?_
      refine E_c rfl ?_
      refine E_rti rfl (.inr ⟨?_, kz⟩)
      rintro ⟨j, hj, ej, nj⟩
      rw [(nJ_eq (by omega) (by omega)).mp ej] at hz
      exact nj hz
    · refine E_ifT rfl (decide_eq_true hz) ?_
      refine E_al rfl L0 ?_
      refine E_ci 1 rfl (by decide) ?_
      refine E_il rfl L1 ?_
      refine E_bin rfl (nJ_add _ _) ?_
      refine E_ci 0 rfl (by decide) ?_
      refine E_call rfl (Sp_le (by omega) (sp_cpY (d := d) (a := 1 + k) (b := 0) hh1 (by omega) (by omega) (by omega))) (chk77 hh1 rfl rfl (by show 0 ≤ 8; decide)) (fun h4 r4 => ?_)
      rintro ⟨e4, hh4, f4, c4, k4⟩
      rw [e4]
      refine E_ci 0 rfl (by decide) ?_
      rw [show 1 + k = k + 1 by omega] at c4
      refine E_rti rfl (.inl ⟨k, by omega, rfl, hz, ⟨?_, fun i hi => ?_, fun i hi => ?_, fun i hi => ?_, fun i hi => ?_⟩, fun r hr hne => ⟨?_, fun i hi => ?_, fun i hi => ?_, fun i hi => ?_, fun i hi => ?_⟩⟩)
      · rw [c4.1, z _ _ (by omega)]
      · rw [c4.2.1 i hi, z _ _ (by omega)]
      · rw [c4.2.2.1 i hi, z _ _ (by omega)]
      · rw [c4.2.2.2.1 i hi, z _ _ (by omega)]
      · rw [c4.2.2.2.2 i hi, z _ _ (by omega)]
      · rw [(k4 r (by omega) hne).1, z _ _ (by omega)]
      · rw [(k4 r (by omega) hne).2.1 i hi, z _ _ (by omega)]
      · rw [(k4 r (by omega) hne).2.2.1 i hi, z _ _ (by omega)]
      · rw [(k4 r (by omega) hne).2.2.2.1 i hi, z _ _ (by omega)]
      · rw [(k4 r (by omega) hne).2.2.2.2 i hi, z _ _ (by omega)]
  · refine E_ifF rfl (by rw [zb_F hb3]; rfl) ?_
    refine E_c rfl ?_
    exact E_rti rfl (.inr ⟨fun ⟨j, hj, ej, _⟩ => hb3 (by rw [ej, nJ_toInt (by omega)]; omega), kz⟩)
end IM9
end
section
/-! the streets' relation and pairs of calls over it (wants t33, t53, t56 to t60) -/
noncomputable def ST1 (A r : Nat) (h : pm_H) : Prop := gi h A 3 = gi h 83 r ∧ (∀ k, k < 3 → gi h A k = gi h 84 (6 * r + k)) ∧ gi h A 4 = gi h 84 (6 * r + 3) ∧ gi h A 5 = gi h 84 (6 * r + 4) ∧ (gn h A 0 = 0 ↔ ¬ 0 < (gi h A 3).toInt)
noncomputable def STA (A r : Nat) (h : pm_H) : Prop := gi h A 6 = gi h 84 (6 * r + 5)
noncomputable def STD (A r : Nat) (h : pm_H) : Prop := ∀ i, i < 8 → i < gn h A 4 → gi h (A + 3) i = gi h 85 (16 * r + (2 * i + 1))
noncomputable def BN (A : Nat) (h : pm_H) : Prop := gn h A 4 ≤ 8 ∧ gn h A 5 ≤ 8 ∧ gn h A 6 ≤ 20
noncomputable def TJ (A r : Nat) (h : pm_H) : Prop := (∀ i, i < gn h A 4 → gi h (A + 1) i = gi h 85 (16 * r + 2 * i)) ∧ ∀ i, i < gn h A 5 → gi h (A + 4) i = gi h 86 (16 * r + 2 * i) ∧ gi h (A + 5) i = gi h 86 (16 * r + (2 * i + 1))
noncomputable def AC (A r n : Nat) (h : pm_H) : Prop := ∀ i, i < n → gi h (A + 6) i = gi h 87 (60 * r + (3 * i + 1)) ∧ gi h (A + 7) i = gi h 87 (60 * r + (3 * i + 2)) ∧ gi h (A + 8) i = gi h 87 (60 * r + 3 * i)
noncomputable def VT (A : Nat) (h : pm_H) : Prop := ∀ i, i < gn h A 4 → 1 ≤ gn h (A + 1) i ∧ gn h (A + 1) i ≤ gn h A 0
noncomputable def VA (A : Nat) (h : pm_H) : Prop := ∀ i, i < gn h A 6 → vAct (gn h A 4) (gn h A 0) (gn h (A + 6)) (gn h (A + 7)) (gn h (A + 8)) i
noncomputable def NW (A : Nat) (h : pm_H) : Prop := ∀ i, i < gn h A 4 → gn h (A + 2) i = nwF (gn h (A + 6)) (gn h (A + 7)) (gn h (A + 8)) (gn h (A + 1)) (gn h A 6) i
noncomputable def FS (A r : Nat) (h : pm_H) : Prop := BN A h ∧ TJ A r h ∧ AC A r (gn h A 6) h ∧ VT A h ∧ VA A h ∧ NW A h
noncomputable def ST (A r : Nat) (h : pm_H) : Prop := ST1 A r h ∧ STA A r h ∧ STD A r h ∧ FS A r h
theorem gn_eq {h h' : pm_H} {a b k j : Nat} (e : gi h' a k = gi h b j) : gn h' a k = gn h b j := by unfold gn; rw [e]
theorem FS_cp {A B r s : Nat} {h h' : pm_H} (c : CPY A B h h') (k : CP9 r s h h') (S : FS B s h) : FS A r h' := by
  obtain ⟨c1, -, c3, c4⟩ := c
  obtain ⟨-, -, k3, k4, k5⟩ := k
  obtain ⟨⟨b1, b2, b3⟩, ⟨t1, t2⟩, ac, vt, va, nw⟩ := S
  have e : ∀ j, j < 7 → gn h' A j = gn h B j := fun j hj => gn_eq (c1 j hj)
  have e4 := e 4 (by omega)
  have e5 := e 5 (by omega)
  have e6 := e 6 (by omega)
  have e0 := e 0 (by omega)
  refine ⟨⟨by omega, by omega, by omega⟩, ⟨fun i hi => ?_, fun i hi => ?_⟩, fun i hi => ?_, fun i hi => ?_, fun i hi => ?_, fun i hi => ?_⟩
  · rw [(c3 i (by omega)).1, k3 _ (by omega)]; exact t1 i (by omega)
  · rw [(c3 i (by omega)).2.2.1, (c3 i (by omega)).2.2.2, k4 _ (by omega), k4 _ (by omega)]; exact t2 i (by omega)
  · rw [(c4 i (by omega)).1, (c4 i (by omega)).2.1, (c4 i (by omega)).2.2, k5 _ (by omega), k5 _ (by omega), k5 _ (by omega)]; exact ac i (by omega)
  · rw [gn_eq (c3 i (by omega)).1, e0]; exact vt i (by omega)
  · have v := va i (by omega)
    unfold vAct at v ⊢
    rw [gn_eq (c4 i (by omega)).1, gn_eq (c4 i (by omega)).2.1, gn_eq (c4 i (by omega)).2.2, e4, e0]
    exact v
  · rw [gn_eq (c3 i (by omega)).2.1, nw i (by omega), e6]
    exact (nwF_cg (gn h B 6) (fun q hq => ⟨gn_eq (c4 q (by omega)).1, gn_eq (c4 q (by omega)).2.1, gn_eq (c4 q (by omega)).2.2⟩) va (fun j hj => gn_eq (c3 j (by omega)).1) i (by omega)).symm
theorem ST_cp {A B r s : Nat} {h h' : pm_H} (c : CPY A B h h') (k : CP9 r s h h') (S : ST B s h) : ST A r h' := by
  have fs := FS_cp c k S.2.2.2
  obtain ⟨c1, c2, -⟩ := c
  obtain ⟨k1, k2, k3, -⟩ := k
  obtain ⟨⟨s1, s2, s3, s4, s5⟩, sa, sd, -⟩ := S
  refine ⟨⟨?_, fun i hi => ?_, ?_, ?_, ?_⟩, ?_, fun i hi h4 => ?_, fs⟩
  · rw [c1 3 (by omega), k1]; exact s1
  · rw [c1 i (by omega), k2 i (by omega)]; exact s2 i hi
  · rw [c1 4 (by omega), k2 3 (by omega)]; exact s3
  · rw [c1 5 (by omega), k2 4 (by omega)]; exact s4
  · rw [c1 3 (by omega), gn_eq (c1 0 (by omega))]; exact s5
  · show gi h' A 6 = gi h' 84 (6 * r + 5)
    rw [c1 6 (by omega), k2 5 (by omega)]; exact sa
  · rw [gn_eq (c1 4 (by omega))] at h4
    rw [c2 i hi, k3 _ (by omega)]; exact sd i hi h4
end
