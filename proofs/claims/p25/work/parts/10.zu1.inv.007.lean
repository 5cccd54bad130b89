section
theorem sp_row9 {h : pm_H} {d : Nat} {x y v : Int32} (hh : HH h) : Sp (d + 3) 338 h [.ref 77, .int x, .int y, .int v] (RQ9 x y v h) := by
  refine Sp_of aiX9_row rfl rfl rfl ?_
  have L0 : pm_get (lv_args 0 [.ref 77, .int x, .int y, .int v]) 0 = some (.ref 77) := rfl
  have L1 : pm_get (lv_args 0 [.ref 77, .int x, .int y, .int v]) 1 = some (.int x) := rfl
  have L2 : pm_get (lv_args 0 [.ref 77, .int x, .int y, .int v]) 2 = some (.int y) := rfl
  have L3 : pm_get (lv_args 0 [.ref 77, .int x, .int y, .int v]) 3 = some (.int v) := rfl
  generalize lv_args 0 [.ref 77, .int x, .int y, .int v] = lv at L0 L1 L2 L3 ⊢
  have z0 : (0 : Int32).toInt = 0 := rfl
  refine E_al rfl L0 ?_
  refine E_ci 0 rfl (by decide) ?_
  refine E_pf rfl hh rfl ?_
  have hg : HH (pt h 77 0 (nJ 0)) := HH_ptn hh rfl (by omega) (by omega) (by omega)
  have no : (x.toInt < 0 ∨ 3 < x.toInt ∨ y.toInt < 0 ∨ 3 < y.toInt ∨ 60 < v.toInt) → Ends (pm_at tX9_row) (pm_Rt pm_P (d + 2)) (30, lv, [], pt h 77 0 (nJ 0), 0, 0) (RQ9 x y v h) := by
    intro q
    refine E_c rfl ?_
    exact E_rti rfl ⟨by rw [(rowv_2 q).1], .inr ⟨(rowv_2 q).2, rfl⟩⟩
  refine E_il rfl L1 ?_
  refine E_call rfl sp_isSlot (chkS rfl (by show 0 ≤ 8; decide)) (fun h1 r1 => ?_)
  rintro ⟨e1, f1⟩
  rw [e1, f1]
  by_cases b0 : 0 ≤ x.toInt ∧ x.toInt ≤ 3
  · refine E_ifF rfl (by rw [zb_T b0]; rfl) ?_
    refine E_il rfl L2 ?_
    refine E_i2l rfl ?_
    refine E_c rfl ?_
    refine E_c rfl ?_
    refine E_call rfl (sp_in (a := y.toInt) (b := 0) (c := 3) (i2l_toInt _) rfl rfl) (chkS rfl (by show 0 ≤ 8; decide)) (fun h2 r2 => ?_)
    rintro ⟨e2, f2⟩
    rw [e2, f2]
    by_cases b1 : 0 ≤ y.toInt ∧ y.toInt ≤ 3
    · refine E_ifF rfl (by rw [zb_T b1]; rfl) ?_
      refine E_il rfl L3 ?_
      refine E_ci 60 rfl (by decide) ?_
      by_cases b3 : v ≤ nJ 60
      · have q3 := Int32.le_iff_toInt_le.mp b3
        rw [nJ_toInt (by omega)] at q3
        refine E_icT rfl (decide_eq_true b3) ?_
        refine E_il rfl L3 ?_
        by_cases b4 : 0 ≤ v
        · have q4 := Int32.le_iff_toInt_le.mp b4
          refine E_ifT rfl (decide_eq_true b4) ?_
          have hr : rin x y v := ⟨b0, b1, by omega, by omega⟩
          obtain ⟨s, hs, rfl⟩ : ∃ s, s < 4 ∧ x = nJ s := ⟨x.toInt.toNat, by omega, nJ_of b0.1⟩
          obtain ⟨w, hw, rfl⟩ : ∃ s, s ≤ 3 ∧ y = nJ s := ⟨y.toInt.toNat, by omega, nJ_of b1.1⟩
          obtain ⟨n, hn, rfl⟩ : ∃ s, s ≤ 60 ∧ v = nJ s := ⟨v.toInt.toNat, by omega, nJ_of (by omega)⟩
          refine E_al rfl L0 ?_
          refine E_gr rfl hg (q := 78) rfl ?_
          refine E_il rfl L1 ?_
          refine E_il rfl L2 ?_
          refine E_ias rfl hg rfl (by omega) (by decide) ?_
          have h1 : HH (pt (pt h 77 0 (nJ 0)) 78 s (nJ w)) := HH_ptn hg (bd_u rfl (by omega)) (by omega) (by omega) (by omega)
          refine E_al rfl L0 ?_
          refine E_gr rfl h1 (q := 79) rfl ?_
          refine E_il rfl L1 ?_
          refine E_il rfl L3 ?_
          refine E_ias rfl h1 rfl (by omega) (by decide) ?_
          have h2 : HH (pt (pt (pt h 77 0 (nJ 0)) 78 s (nJ w)) 79 s (nJ n)) := HH_ptn h1 (bd_u rfl (by omega)) (by omega) (by omega) (by omega)
          refine E_ci 0 rfl (by decide) ?_
          refine E_is rfl (fun lv1 K4 kp => ?_)
          refine rw9_loop hs hn hr n (i := 0) lv1 (by omega) h2 ?_ ?_ ?_ (kp 0 _ (by decide) rfl L0) (kp 1 _ (by decide) rfl L1) (kp 3 _ (by decide) rfl L3) K4
          · refine fr_ptr (l := s) (u := s) (by unfold RM9 rg_sub; simp) (Nat.le_refl _) (Nat.le_refl _) (fr_ptr (l := s) (u := s) (by unfold RM9 rg_sub; simp) (Nat.le_refl _) (Nat.le_refl _) (fr_ptr (l := 0) (u := 0) (by unfold RM9 rg_sub; simp) (Nat.le_refl _) (Nat.le_refl _) (fr_rf _ _)))
          · rw [gi_ne (by omega)]
            exact gi_pt hg (bd_u rfl (by omega)) (by rw [nJ_toInt (by omega)]; show (-1 : Int) ≤ _; omega) (by rw [nJ_toInt (by omega)]; show _ ≤ (3 : Int); omega)
          · exact gi_pt h1 (bd_u rfl (by omega)) (by rw [nJ_toInt (by omega)]; show (0 : Int) ≤ _; omega) (by rw [nJ_toInt (by omega)]; show _ ≤ (60 : Int); omega)
        · have q4 : ¬ (0 : Int32).toInt ≤ v.toInt := fun w => b4 (Int32.le_iff_toInt_le.mpr w)
          refine E_ifF rfl (decide_eq_false b4) ?_
          refine E_c rfl ?_
          have q5 := rowv_3 (a := x) (b := y) (c := v) (by omega) (by omega)
          exact E_rti rfl ⟨by rw [q5.1], .inr ⟨q5.2, rfl⟩⟩
      · have q3 : ¬ v.toInt ≤ (nJ 60).toInt := fun w => b3 (Int32.le_iff_toInt_le.mpr w)
        rw [nJ_toInt (by omega)] at q3
        refine E_icF rfl (decide_eq_false b3) ?_
        exact no (by omega)
    · refine E_ifT rfl (by rw [zb_F b1]; rfl) ?_
      exact no (by omega)
  · refine E_ifT rfl (by rw [zb_F b0]; rfl) ?_
    exact no (by omega)
/-! the relation of the slots -/
noncomputable def SL1 (s : Nat) (h : pm_H) : Prop := gi h (54 + 2 * s) 1 = (if gi h 78 s = -1 then 0 else 1) ∧ (¬ gi h 78 s = -1 → gi h (54 + 2 * s) 2 = gi h 78 s) ∧ gi h (54 + 2 * s) 3 = gi h 79 s
noncomputable def SL (h : pm_H) : Prop := ∀ s, s < 4 → SL1 s h
end
section
/-! the slots, II: write and paste of both, pairs of calls over the slots' relation (wants t30, t31, t27) -/
theorem Sp_an {d y : Nat} {h : pm_H} {as : List Value} {Q Q' : pm_H → Option Value → Prop} (a : Sp d y h as Q) (b : Sp d y h as Q') : Sp d y h as (fun h' r => Q h' r ∧ Q' h' r) := by
  obtain ⟨h1, r1, a1, a2⟩ := a
  obtain ⟨h2, r2, b1, b2⟩ := b
  obtain ⟨rfl, rfl⟩ := pm_Rt_det _ _ _ _ _ _ _ _ a1 b1
  exact ⟨h1, r1, a1, a2, b2⟩
section WRT
variable {look : Nat → Option pm_I} {call : pm_Call} {Q : pm_H → Option Value → Prop} {pc n i t : Nat} {lv : List (Nat × Value)} {st : List Value} {w : pm_H × Nat × Nat} {h : pm_H} {z : Nat × Nat}
theorem gp_nw {v u : Value} {j : Nat} (hj : j ≠ i) (hj1 : j + 1 ≠ i) (e : pm_get lv j = some u) : pm_get (pm_put1 i v lv) j = some u := by
  unfold pm_put1
  refine pm_get_ne hj (pm_get_filter e ?_)
  simp only [Bool.and_eq_true, Bool.not_eq_true', Bool.and_eq_false_iff, beq_eq_false_iff_ne]
  exact ⟨hj, .inl hj1⟩
theorem E_asw {a : Nat} (h1 : look pc = some (.inl (s_as i n))) (k : ∀ lv' : List (Nat × Value), pm_get lv' i = some (.ref a) → (∀ (j : Nat) (u : Value), j ≠ i → j + 1 ≠ i → pm_get lv j = some u → pm_get lv' j = some u) → Ends look call (n, lv', st, w) Q) : Ends look call (pc, lv, .ref a :: st, w) Q :=
  E_st h1 rfl (k (pm_put1 i (.ref a) lv) gp_self (fun _ _ a b c => gp_nw a b c))
theorem E_rtl {v : Int64} (h1 : look pc = some (.inr (.inr 3))) (hq : Q h (some (.long v))) : Ends look call (pc, lv, [.long v], h, z) Q := ⟨h, some (.long v), Go_ret h1 ⟨v, rfl, rfl⟩, hq⟩
theorem E_tsA {lo hi : Int} {ts : List Nat} {dd : Nat} {x : Int32} (h1 : look pc = some (.inl (s_tsw lo hi ts dd))) (hz : (decide (x.toInt < lo) || decide (hi < x.toInt)) = false) (ht : ts[(x.toInt - lo).toNat]? = some t) (k : Ends look call (t, lv, st, w) Q) : Ends look call (pc, lv, .int x :: st, w) Q := E_st h1 (by simp only [s_tsw, hz, cond_false, ht]) k
theorem E_tsD {lo hi : Int} {ts : List Nat} {dd : Nat} {x : Int32} (h1 : look pc = some (.inl (s_tsw lo hi ts dd))) (hz : (decide (x.toInt < lo) || decide (hi < x.toInt)) = true) (k : Ends look call (dd, lv, st, w) Q) : Ends look call (pc, lv, .int x :: st, w) Q := E_st h1 (by simp only [s_tsw, hz, cond_true]) k
end WRT
/-- a number cut to its width -/
noncomputable def cutv (v : Int64) (w : Int32) : Int64 := if w = 0 then v.toInt32.toInt8.toInt32.toInt64 else if w = 1 then v.toInt32.toInt16.toInt32.toInt64 else if w = 2 then v.toInt32.toInt64 else v
section CUT
variable {h : pm_H} {d : Nat} {v : Int64} {w : Int32}
theorem sp_cut8 : Sp (d + 1) 97 h [.long v, .int w] (fun h' r => h' = h ∧ r = some (.long (cutv v w))) := by
  refine Sp_of aiX8_cut rfl rfl rfl ?_
  have L0 : pm_get (lv_args 0 [.long v, .int w]) 0 = some (.long v) := rfl
  have L2 : pm_get (lv_args 0 [.long v, .int w]) 2 = some (.int w) := rfl
  generalize lv_args 0 [.long v, .int w] = lv at L0 L2 ⊢
  refine E_il rfl L2 ?_
  by_cases e0 : w = 0
  · subst e0
    refine E_tsA (t := 28) rfl (by decide) (by decide) ?_
    refine E_ll rfl L0 ?_
    refine E_l2i rfl rfl ?_
    refine E_un rfl ?_
    refine E_i2l rfl ?_
    exact E_rtl rfl ⟨rfl, by unfold cutv; rw [if_pos rfl]⟩
  by_cases e1 : w = 1
  · subst e1
    refine E_tsA (t := 33) rfl (by decide) (by decide) ?_
    refine E_ll rfl L0 ?_
    refine E_l2i rfl rfl ?_
    refine E_un rfl ?_
    refine E_i2l rfl ?_
    exact E_rtl rfl ⟨rfl, by unfold cutv; rw [if_neg e0, if_pos rfl]⟩
  by_cases e2 : w = 2
  · subst e2
    refine E_tsA (t := 38) rfl (by decide) (by decide) ?_
    refine E_ll rfl L0 ?_
    refine E_l2i rfl rfl ?_
    refine E_i2l rfl ?_
    exact E_rtl rfl ⟨rfl, by unfold cutv; rw [if_neg e0, if_neg e1, if_pos rfl]⟩
  have n0 : w.toInt ≠ 0 := fun q => e0 (Int32.toInt_inj.mp q)
  have n1 : w.toInt ≠ 1 := fun q => e1 (Int32.toInt_inj.mp q)
  have n2 : w.toInt ≠ 2 := fun q => e2 (Int32.toInt_inj.mp q)
  have hz : (decide (w.toInt < 0) || decide (2 < w.toInt)) = true := by
    rw [Bool.or_eq_true, decide_eq_true_iff, decide_eq_true_iff]
    omega
  refine E_tsD rfl hz ?_
  refine E_ll rfl L0 ?_
  exact E_rtl rfl ⟨rfl, by unfold cutv; rw [if_neg e0, if_neg e1, if_neg e2]⟩
theorem sp_cut9 : Sp (d + 1) 236 h [.long v, .int w] (fun h' r => h' = h ∧ r = some (.long (cutv v w))) := by
  refine Sp_of aiX9_cut rfl rfl rfl ?_
  have L0 : pm_get (lv_args 0 [.long v, .int w]) 0 = some (.long v) := rfl
  have L2 : pm_get (lv_args 0 [.long v, .int w]) 2 = some (.int w) := rfl
  generalize lv_args 0 [.long v, .int w] = lv at L0 L2 ⊢
  refine E_il rfl L2 ?_
  by_cases e0 : w = 0
  · refine E_ifF rfl (decide_eq_false (fun q => q e0)) ?_
    refine E_ll rfl L0 ?_
    refine E_l2i rfl rfl ?_
    refine E_un rfl ?_
    refine E_i2l rfl ?_
    refine E_goto rfl ?_
    exact E_rtl rfl ⟨rfl, by unfold cutv; rw [if_pos e0]⟩
  refine E_ifT rfl (decide_eq_true e0) ?_
  refine E_il rfl L2 ?_
  refine E_c rfl ?_
  by_cases e1 : w = 1
  · refine E_icF rfl (decide_eq_false (fun q => q e1)) ?_
    refine E_ll rfl L0 ?_
    refine E_l2i rfl rfl ?_
    refine E_un rfl ?_
    refine E_i2l rfl ?_
    refine E_goto rfl ?_
    exact E_rtl rfl ⟨rfl, by unfold cutv; rw [if_neg e0, if_pos e1]⟩
  refine E_icT rfl (decide_eq_true e1) ?_
  refine E_il rfl L2 ?_
  refine E_c rfl ?_
  by_cases e2 : w = 2
  · refine E_icF rfl (decide_eq_false (fun q => q e2)) ?_
    refine E_ll rfl L0 ?_
    refine E_l2i rfl rfl ?_
    refine E_i2l rfl ?_
    refine E_goto rfl ?_
    exact E_rtl rfl ⟨rfl, by unfold cutv; rw [if_neg e0, if_neg e1, if_pos e2]⟩
  refine E_icT rfl (decide_eq_true e2) ?_
  refine E_ll rfl L0 ?_
  exact E_rtl rfl ⟨rfl, by unfold cutv; rw [if_neg e0, if_neg e1, if_neg e2]⟩
end CUT
end
