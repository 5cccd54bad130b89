section
theorem sp_row8 {h : pm_H} {d : Nat} {x y v : Int32} (hh : HH h) : Sp (d + 2) 171 h [.ref 0, .int x, .int y, .int v] (RQ8 x y v h) := by
  refine Sp_of aiX8_row rfl rfl rfl ?_
  have L0 : pm_get (lv_args 0 [.ref 0, .int x, .int y, .int v]) 0 = some (.ref 0) := rfl
  have L1 : pm_get (lv_args 0 [.ref 0, .int x, .int y, .int v]) 1 = some (.int x) := rfl
  have L2 : pm_get (lv_args 0 [.ref 0, .int x, .int y, .int v]) 2 = some (.int y) := rfl
  have L3 : pm_get (lv_args 0 [.ref 0, .int x, .int y, .int v]) 3 = some (.int v) := rfl
  generalize lv_args 0 [.ref 0, .int x, .int y, .int v] = lv at L0 L1 L2 L3 ⊢
  have z0 : (0 : Int32).toInt = 0 := rfl
  have no : (x.toInt < 0 ∨ 3 < x.toInt ∨ y.toInt < 0 ∨ 3 < y.toInt ∨ 60 < v.toInt) → Ends (pm_at tX8_row) (pm_Rt pm_P (d + 1)) (22, lv, [], h, 0, 0) (RQ8 x y v h) := by
    intro q
    refine E_c rfl ?_
    exact E_rti rfl ⟨by rw [(rowv_2 q).1], .inr ⟨(rowv_2 q).2, rfl⟩⟩
  refine E_il rfl L1 ?_
  refine E_call rfl (sp_isSlot8 (d := d)) (chkS rfl (by show 0 ≤ 8; decide)) (fun h1 r1 => ?_)
  rintro ⟨e1, rv⟩
  rw [e1]
  rcases rv with ⟨a0, a3, hr⟩ | ⟨an, hr⟩
  · rw [hr]
    refine E_ifF rfl (by decide) ?_
    refine E_il rfl L2 ?_
    by_cases b1 : y < 0
    · have q := Int32.lt_iff_toInt_lt.mp b1
      refine E_ifT rfl (decide_eq_true b1) ?_
      exact no (by omega)
    have q1 : ¬ y.toInt < (0 : Int32).toInt := fun w => b1 (Int32.lt_iff_toInt_lt.mpr w)
    refine E_ifF rfl (decide_eq_false b1) ?_
    refine E_il rfl L2 ?_
    refine E_ci 4 rfl ci4 ?_
    by_cases b2 : nJ 4 ≤ y
    · have q := Int32.le_iff_toInt_le.mp b2
      rw [nJ_toInt (by omega)] at q
      refine E_icT rfl (decide_eq_true b2) ?_
      exact no (by omega)
    have q2 : ¬ (nJ 4).toInt ≤ y.toInt := fun w => b2 (Int32.le_iff_toInt_le.mpr w)
    rw [nJ_toInt (by omega)] at q2
    refine E_icF rfl (decide_eq_false b2) ?_
    refine E_il rfl L3 ?_
    refine E_ci 60 rfl ci60 ?_
    by_cases b3 : v ≤ nJ 60
    · have q3 := Int32.le_iff_toInt_le.mp b3
      rw [nJ_toInt (by omega)] at q3
      refine E_icT rfl (decide_eq_true b3) ?_
      refine E_il rfl L3 ?_
      by_cases b4 : 0 ≤ v
      · have q4 := Int32.le_iff_toInt_le.mp b4
        refine E_ifT rfl (decide_eq_true b4) ?_
        have hr : rin x y v := ⟨⟨a0, a3⟩, ⟨by omega, by omega⟩, by omega, by omega⟩
        obtain ⟨s, hs, rfl⟩ : ∃ s, s < 4 ∧ x = nJ s := ⟨x.toInt.toNat, by omega, nJ_of a0⟩
        obtain ⟨w, hw, rfl⟩ : ∃ s, s ≤ 3 ∧ y = nJ s := ⟨y.toInt.toNat, by omega, nJ_of (by omega)⟩
        obtain ⟨n, hn, rfl⟩ : ∃ s, s ≤ 60 ∧ v = nJ s := ⟨v.toInt.toNat, by omega, nJ_of (by omega)⟩
        have S := isS_at s hs
        refine E_al rfl L0 ?_
        refine E_ogr rfl hh rfl (q := 53) rfl ?_
        refine E_il rfl L1 ?_
        refine E_aal rfl hh rfl (slot_at s hs) (by decide) ?_
        refine E_il rfl L2 ?_
        refine E_il rfl L3 ?_
        refine E_call rfl (sp_begin (d := d) (by omega) S hh hw hn) (chkO (a := 54 + 2 * s) hh S.1 rfl rfl rfl (by show 0 ≤ 8; decide)) (fun h2 r2 => ?_)
        rintro ⟨e2, hh2, f2, g1, g2, g3⟩
        rw [e2]
        refine E_ci 0 rfl ci0 ?_
        exact E_rti rfl ⟨by rw [rowv_0 hr]; rfl, .inl ⟨hr, hh2, s, hs, rfl, f2, g1, g2, g3⟩⟩
      · have q4 : ¬ (0 : Int32).toInt ≤ v.toInt := fun w => b4 (Int32.le_iff_toInt_le.mpr w)
        refine E_ifF rfl (decide_eq_false b4) ?_
        refine E_c rfl ?_
        have q5 := rowv_3 (a := x) (b := y) (c := v) (by omega) (by omega)
        exact E_rti rfl ⟨by rw [q5.1], .inr ⟨q5.2, rfl⟩⟩
    · have q3 : ¬ v.toInt ≤ (nJ 60).toInt := fun w => b3 (Int32.le_iff_toInt_le.mpr w)
      rw [nJ_toInt (by omega)] at q3
      refine E_icF rfl (decide_eq_false b3) ?_
      exact no (by omega)
  · rw [hr]
    refine E_ifT rfl (by decide) ?_
    exact no (by omega)
/-! the reference's row -/
noncomputable def RM9 (s : Nat) : List Rng := [(77, 0, 0), (78, s, s), (79, s, s), (80, 0, 239)]
noncomputable def RQ9 (x y v : Int32) (h h' : pm_H) (r : Option Value) : Prop := r = some (.int (rowv x y v)) ∧ ((rin x y v ∧ HH h' ∧ ∃ s, s < 4 ∧ x = nJ s ∧ fr_g (RM9 s) h h' ∧ gi h' 78 s = y ∧ gi h' 79 s = v) ∨ (¬ rin x y v ∧ h' = pt h 77 0 (nJ 0)))
theorem rw9_loop {h0 : pm_H} {d s w n : Nat} (hs : s < 4) (hn : n ≤ 60) (hr : rin (nJ s) (nJ w) (nJ n)) (j : Nat) : ∀ {h : pm_H} {i : Nat} (lv : List (Nat × Value)), i + j = n → HH h → fr_g (RM9 s) h0 h → gi h 78 s = nJ w → gi h 79 s = nJ n → pm_get lv 0 = some (.ref 77) → pm_get lv 1 = some (.int (nJ s)) → pm_get lv 3 = some (.int (nJ n)) → pm_get lv 4 = some (.int (nJ i)) → Ends (pm_at tX9_row) (pm_Rt pm_P d) (57, lv, [], h, 0, 0) (RQ9 (nJ s) (nJ w) (nJ n) h0) := by
  induction j with
  | zero =>
    intro h i lv hj hh hf g1 g2 L0 L1 L3 L4
    refine E_il rfl L4 ?_
    refine E_il rfl L3 ?_
    refine E_icT rfl (decide_eq_true ((nJ_le (by omega) (by omega)).mpr (by omega))) ?_
    refine E_ci 0 rfl ci0 ?_
    exact E_rti rfl ⟨by rw [rowv_0 hr]; rfl, .inl ⟨hr, hh, s, hs, rfl, hf, g1, g2⟩⟩
  | succ j ih =>
    intro h i lv hj hh hf g1 g2 L0 L1 L3 L4
    refine E_il rfl L4 ?_
    refine E_il rfl L3 ?_
    refine E_icF rfl (decide_eq_false (fun q => absurd ((nJ_le (by omega) (by omega)).mp q) (by omega))) ?_
    refine E_al rfl L0 ?_
    refine E_gr rfl hh (q := 80) rfl ?_
    refine E_ci 60 rfl ci60 ?_
    refine E_il rfl L1 ?_
    refine E_bin rfl (nJ_mul _ _) ?_
    refine E_il rfl L4 ?_
    refine E_bin rfl (nJ_add _ _) ?_
    refine E_c rfl ?_
    refine E_las rfl hh rfl (by omega) (by decide) (fun h1 hh1 f1 _ => ?_)
    refine E_inc rfl L4 (nJ_inc _) (fun lv1 K4 kp => ?_)
    refine E_goto rfl ?_
    exact ih lv1 (by omega) hh1 (fr_trans hf (fr_one (l := 0) (u := 239) rfl (Nat.zero_le _) (by omega) f1)) (by rw [fr_gi f1 (rg_no rfl _)]; exact g1) (by rw [fr_gi f1 (rg_no rfl _)]; exact g2) (kp 0 _ (nbz rfl) rfl L0) (kp 1 _ (nbz rfl) rfl L1) (kp 3 _ (nbz rfl) rfl L3) K4
theorem sp_row9 {h : pm_H} {d : Nat} {x y v : Int32} (hh : HH h) : Sp (d + 3) 338 h [.ref 77, .int x, .int y, .int v] (RQ9 x y v h) := by
  refine Sp_of aiX9_row rfl rfl rfl ?_
  have L0 : pm_get (lv_args 0 [.ref 77, .int x, .int y, .int v]) 0 = some (.ref 77) := rfl
  have L1 : pm_get (lv_args 0 [.ref 77, .int x, .int y, .int v]) 1 = some (.int x) := rfl
  have L2 : pm_get (lv_args 0 [.ref 77, .int x, .int y, .int v]) 2 = some (.int y) := rfl
  have L3 : pm_get (lv_args 0 [.ref 77, .int x, .int y, .int v]) 3 = some (.int v) := rfl
  generalize lv_args 0 [.ref 77, .int x, .int y, .int v] = lv at L0 L1 L2 L3 ⊢
  have z0 : (0 : Int32).toInt = 0 := rfl
  refine E_al rfl L0 ?_
  refine E_ci 0 rfl ci0 ?_
  refine E_pf rfl hh rfl ?_
  have hg : HH (pt h 77 0 (nJ 0)) := HH_ptn hh rfl (by omega) (by omega) (by omega)
  have no : (x.toInt < 0 ∨ 3 < x.toInt ∨ y.toInt < 0 ∨ 3 < y.toInt ∨ 60 < v.toInt) → Ends (pm_at tX9_row) (pm_Rt pm_P (d + 2)) (30, lv, [], pt h 77 0 (nJ 0), 0, 0) (RQ9 x y v h) := by
    intro q
    refine E_c rfl ?_
    exact E_rti rfl ⟨by rw [(rowv_2 q).1], .inr ⟨(rowv_2 q).2, rfl⟩⟩
  refine E_il rfl L1 ?_
  refine E_call rfl sp_isSlot (chkS rfl (by show 0 ≤ 8; decide)) (fun h1 r1 => ?_)
  rintro ⟨e1, f1⟩
  rw [e1, f1]
  by_cases b0 : 0 ≤ x.toInt ∧ x.toInt ≤ 3
  · refine E_ifF rfl (by rw [zb_T b0]; rfl) ?_
    refine E_il rfl L2 ?_
    refine E_i2l rfl ?_
    refine E_c rfl ?_
    refine E_c rfl ?_
    refine E_call rfl (sp_in (a := y.toInt) (b := 0) (c := 3) (i2l_toInt _) rfl rfl) (chkS rfl (by show 0 ≤ 8; decide)) (fun h2 r2 => ?_)
    rintro ⟨e2, f2⟩
    rw [e2, f2]
    by_cases b1 : 0 ≤ y.toInt ∧ y.toInt ≤ 3
    · refine E_ifF rfl (by rw [zb_T b1]; rfl) ?_
      refine E_il rfl L3 ?_
      refine E_ci 60 rfl ci60 ?_
      by_cases b3 : v ≤ nJ 60
      · have q3 := Int32.le_iff_toInt_le.mp b3
        rw [nJ_toInt (by omega)] at q3
        refine E_icT rfl (decide_eq_true b3) ?_
        refine E_il rfl L3 ?_
        by_cases b4 : 0 ≤ v
        · have q4 := Int32.le_iff_toInt_le.mp b4
          refine E_ifT rfl (decide_eq_true b4) ?_
          have hr : rin x y v := ⟨b0, b1, by omega, by omega⟩
          obtain ⟨s, hs, rfl⟩ : ∃ s, s < 4 ∧ x = nJ s := ⟨x.toInt.toNat, by omega, nJ_of b0.1⟩
          obtain ⟨w, hw, rfl⟩ : ∃ s, s ≤ 3 ∧ y = nJ s := ⟨y.toInt.toNat, by omega, nJ_of b1.1⟩
          obtain ⟨n, hn, rfl⟩ : ∃ s, s ≤ 60 ∧ v = nJ s := ⟨v.toInt.toNat, by omega, nJ_of (by omega)⟩
          refine E_al rfl L0 ?_
          refine E_gr rfl hg (q := 78) rfl ?_
          refine E_il rfl L1 ?_
          refine E_il rfl L2 ?_
          refine E_ias rfl hg rfl (by omega) (by decide) ?_
          have h1 : HH (pt (pt h 77 0 (nJ 0)) 78 s (nJ w)) := HH_ptn hg (bd_u rfl (by omega)) (by omega) (by omega) (by omega)
          refine E_al rfl L0 ?_
          refine E_gr rfl h1 (q := 79) rfl ?_
          refine E_il rfl L1 ?_
          refine E_il rfl L3 ?_
          refine E_ias rfl h1 rfl (by omega) (by decide) ?_
          have h2 : HH (pt (pt (pt h 77 0 (nJ 0)) 78 s (nJ w)) 79 s (nJ n)) := HH_ptn h1 (bd_u rfl (by omega)) (by omega) (by omega) (by omega)
          refine E_ci 0 rfl ci0 ?_
          refine E_is rfl (fun lv1 K4 kp => ?_)
          refine rw9_loop hs hn hr n (i := 0) lv1 (by omega) h2 ?_ ?_ ?_ (kp 0 _ (nbz rfl) rfl L0) (kp 1 _ (nbz rfl) rfl L1) (kp 3 _ (nbz rfl) rfl L3) K4
          · refine fr_ptr (l := s) (u := s) (by unfold RM9 rg_sub; simp) (Nat.le_refl _) (Nat.le_refl _) (fr_ptr (l := s) (u := s) (by unfold RM9 rg_sub; simp) (Nat.le_refl _) (Nat.le_refl _) (fr_ptr (l := 0) (u := 0) (by unfold RM9 rg_sub; simp) (Nat.le_refl _) (Nat.le_refl _) (fr_rf _ _)))
          · rw [gi_ne (by first | exact gxx rfl | omega)]
            exact gi_pt hg (bd_u rfl (by omega)) (by rw [nJ_toInt (by omega)]; show (-1 : Int) ≤ _; omega) (by rw [nJ_toInt (by omega)]; show _ ≤ (3 : Int); omega)
          · exact gi_pt h1 (bd_u rfl (by omega)) (by rw [nJ_toInt (by omega)]; show (0 : Int) ≤ _; omega) (by rw [nJ_toInt (by omega)]; show _ ≤ (60 : Int); omega)
        · have q4 : ¬ (0 : Int32).toInt ≤ v.toInt := fun w => b4 (Int32.le_iff_toInt_le.mpr w)
          refine E_ifF rfl (decide_eq_false b4) ?_
          refine E_c rfl ?_
          have q5 := rowv_3 (a := x) (b := y) (c := v) (by omega) (by omega)
          exact E_rti rfl ⟨by rw [q5.1], .inr ⟨q5.2, rfl⟩⟩
      · have q3 : ¬ v.toInt ≤ (nJ 60).toInt := fun w => b3 (Int32.le_iff_toInt_le.mpr w)
        rw [nJ_toInt (by omega)] at q3
        refine E_icF rfl (decide_eq_false b3) ?_
        exact no (by omega)
    · refine E_ifT rfl (by rw [zb_F b1]; rfl) ?_
      exact no (by omega)
  · refine E_ifT rfl (by rw [zb_F b0]; rfl) ?_
    exact no (by omega)
/-! the relation of the slots -/
noncomputable def SL1 (s : Nat) (h : pm_H) : Prop := gi h (54 + 2 * s) 1 = (if gi h 78 s = -1 then 0 else 1) ∧ (¬ gi h 78 s = -1 → gi h (54 + 2 * s) 2 = gi h 78 s) ∧ gi h (54 + 2 * s) 3 = gi h 79 s
noncomputable def SL (h : pm_H) : Prop := ∀ s, s < 4 → SL1 s h
end

