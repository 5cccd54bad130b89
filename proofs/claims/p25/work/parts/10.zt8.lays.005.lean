section
theorem pI_eq {a P : Nat} (ha : a < 2147483648) (hP : P < 2147483648) : nJ a = pI P ↔ a + 1 = P := by
  cases P with
  | zero =>
    refine ⟨fun q => ?_, fun q => by omega⟩
    have h1 := congrArg Int32.toInt q
    rw [nJ_toInt ha] at h1
    have h2 : (pI 0).toInt = -1 := rfl
    omega
  | succ k =>
    show nJ a = nJ k ↔ _
    rw [nJ_eq ha (by omega)]
    omega
theorem l2i_nJ {x : Int64} (h0 : 0 ≤ x.toInt) (h1 : x.toInt ≤ 8) : x.toInt32 = nJ x.toInt.toNat := by
  apply Int32.toInt_inj.mp
  rw [nJ_toInt (by omega), Int64.toInt_toInt32]
  rw [Int.bmod_eq_of_le (by omega) (by omega)]
  omega
/-- a slot that holds a code -/
noncomputable def CD (h : pm_H) (sl : Nat) : Prop := sl ≤ 3 ∧ gn h 79 sl + 1 = gn h 84 0 ∧ ∀ i, i < gn h 79 sl → 0 ≤ (gl h 80 (60 * sl + i)).toInt ∧ (gl h 80 (60 * sl + i)).toInt ≤ (gn h 84 0 : Int)
theorem fr_gl {M : List Rng} {h h' : pm_H} {a k : Nat} (hf : fr_g M h h') (hM : rg_in M a k = false) : gl h' a k = gl h a k := by
  unfold gl
  rw [hf a k hM]
theorem wc_loop {h : pm_H} {d sl : Nat} {p : Prop} (hh : HH h) (hs : sl ≤ 3) (hm : gn h 79 sl + 1 = gn h 84 0) (hp : p) (j : Nat) : ∀ {i : Nat} (lv : List (Nat × Value)), i + j = gn h 79 sl → (∀ i1, i1 < i → 0 ≤ (gl h 80 (60 * sl + i1)).toInt ∧ (gl h 80 (60 * sl + i1)).toInt ≤ (gn h 84 0 : Int)) → pm_get lv 0 = some (.ref 77) → pm_get lv 1 = some (.int (nJ sl)) → pm_get lv 3 = some (.int (nJ i)) → Ends (pm_at tX9_whyNotCode) (pm_Rt pm_P (d + 3)) (54, lv, [], h, 0, 0) (fun h' r => h' = h ∧ ∃ y : Int32, r = some (.int y) ∧ (y = 0 → ∃ s2, nJ sl = nJ s2 ∧ CD h s2 ∧ p)) := by
  have hP8 : gn h 84 0 ≤ 8 := gn_hi hh rfl (by decide)
  induction j with
  | zero =>
    intro i lv hj hc L0 L1 L3
    refine E_il rfl L3 ?_
    refine E_al rfl L0 ?_
    refine E_gr rfl hh (q := 79) rfl ?_
    refine E_il rfl L1 ?_
    have b1 : gn h 79 sl ≤ 60 := gn_hi hh (bd_u rfl (by omega)) (by decide)
    refine E_ial rfl hh rfl (by omega) (by decide) (gi_gn hh (bd_u rfl (by omega)) (by decide)) ?_
    refine E_icT rfl (decide_eq_true ((nJ_le (by omega) (by omega)).mpr (by omega))) ?_
    refine E_ci 0 rfl (by decide) ?_
    exact E_rti rfl ⟨rfl, _, rfl, fun _ => ⟨sl, rfl, ⟨hs, hm, fun i1 h1 => hc i1 (by omega)⟩, hp⟩⟩
  | succ j ih =>
    intro i lv hj hc L0 L1 L3
    refine E_il rfl L3 ?_
    refine E_al rfl L0 ?_
    refine E_gr rfl hh (q := 79) rfl ?_
    refine E_il rfl L1 ?_
    have b1 : gn h 79 sl ≤ 60 := gn_hi hh (bd_u rfl (by omega)) (by decide)
    refine E_ial rfl hh rfl (by omega) (by decide) (gi_gn hh (bd_u rfl (by omega)) (by decide)) ?_
    refine E_icF rfl (decide_eq_false (fun q => absurd ((nJ_le (by omega) (by omega)).mp q) (by omega))) ?_
    refine E_al rfl L0 ?_
    refine E_gr rfl hh (q := 80) rfl ?_
    refine E_ci 60 rfl (by decide) ?_
    refine E_il rfl L1 ?_
    refine E_bin rfl (nJ_mul _ _) ?_
    refine E_il rfl L3 ?_
    refine E_bin rfl (nJ_add _ _) ?_
    refine E_lal rfl hh rfl (by omega) (by decide) ?_
    refine E_c rfl ?_
    refine E_al rfl L0 ?_
    refine E_call rfl (sp_places hh) (chk77 hh rfl rfl (by show 4 ≤ 8; decide)) (fun h2 r2 => ?_)
    rintro ⟨e2, f2, c2⟩
    rw [e2, f2]
    show Ends _ _ (80, lv, [.int (nJ (gn h 84 0)), .long (0), .long (gl h 80 (((60 * sl) + i)))], h, 0, 0) _
    refine E_i2l rfl ?_
    refine E_call rfl (sp_in (a := (gl h 80 (((60 * sl) + i))).toInt) (b := 0) (c := ((((gn h 84 0)) : Nat) : Int)) rfl rfl (i2l_nJ (by omega))) (chkS rfl (by show 0 ≤ 8; decide)) (fun h3 r3 => ?_)
    rintro ⟨e3, f3⟩
    rw [e3, f3]
    show Ends _ _ (84, lv, [.int (zb (0 ≤ (gl h 80 (((60 * sl) + i))).toInt ∧ (gl h 80 (((60 * sl) + i))).toInt ≤ ((((gn h 84 0)) : Nat) : Int)))], h, 0, 0) _
    by_cases hb4 : 0 ≤ (gl h 80 (((60 * sl) + i))).toInt ∧ (gl h 80 (((60 * sl) + i))).toInt ≤ ((((gn h 84 0)) : Nat) : Int)
    · refine E_ifT rfl (by rw [zb_T hb4]; rfl) ?_
      refine E_inc rfl L3 (nJ_inc _) (fun lv5 L5_3 kp5 => ?_)
      have L5_0 := kp5 0 _ (by decide) rfl L0
      have L5_1 := kp5 1 _ (by decide) rfl L1
      refine E_goto rfl ?_
      refine ih lv5 (by omega) (fun i1 h1 => ?_) L5_0 L5_1 L5_3
      by_cases e : i1 = i
      · subst e; exact hb4
      · exact hc i1 (by omega)
    · refine E_ifF rfl (by rw [zb_F hb4]; rfl) ?_
      refine E_c rfl ?_
      exact E_rti rfl ⟨rfl, _, rfl, fun q => absurd q (by decide)⟩
theorem sp_whyNotCode {h : pm_H} {d : Nat} {x : Int32} {p : Prop} [Decidable p] (hh : HH h) : Sp (d + 4) 373 h [.ref 77, .int x, .int (zb p)] (fun h' r => h' = h ∧ ∃ y : Int32, r = some (.int y) ∧ (y = 0 → ∃ sl, x = nJ sl ∧ CD h sl ∧ p)) := by
  refine Sp_of aiX9_whyNotCode rfl rfl rfl ?_
  have L0 : pm_get (lv_args 0 [.ref 77, .int x, .int (zb p)]) 0 = some (.ref 77) := rfl
  have L1 : pm_get (lv_args 0 [.ref 77, .int x, .int (zb p)]) 1 = some (.int x) := rfl
  have L2 : pm_get (lv_args 0 [.ref 77, .int x, .int (zb p)]) 2 = some (.int (zb p)) := rfl
  generalize lv_args 0 [.ref 77, .int x, .int (zb p)] = lv at L0 L1 L2 ⊢
  refine E_il rfl L1 ?_
  refine E_call rfl sp_isSlot (chkS rfl (by show 0 ≤ 8; decide)) (fun h1 r1 => ?_)
  rintro ⟨e1, f1⟩
  rw [e1, f1]
  show Ends _ _ (4, lv, [.int (zb (0 ≤ x.toInt ∧ x.toInt ≤ 3))], h, 0, 0) _
  by_cases hb2 : ¬ (0 ≤ x.toInt ∧ x.toInt ≤ 3)
  · refine E_ifT rfl (by rw [zb_F hb2]; rfl) ?_
    refine E_c rfl ?_
    exact E_rti rfl ⟨rfl, _, rfl, fun q => absurd q (by decide)⟩
  · refine E_ifF rfl (by rw [zb_T (Classical.not_not.mp hb2)]; rfl) ?_
    have hsl := Classical.not_not.mp hb2
    refine E_al rfl L0 ?_
    refine E_call rfl (sp_isStreet hh) (chk77 hh rfl rfl (by show 0 ≤ 8; decide)) (fun h3 r3 => ?_)
    rintro ⟨e3, f3⟩
    rw [e3, f3]
    show Ends _ _ (11, lv, [.int (zb (0 < (gi h 83 0).toInt))], h, 0, 0) _
    by_cases hb4 : ¬ (0 < (gi h 83 0).toInt)
    · refine E_ifT rfl (by rw [zb_F hb4]; rfl) ?_
      refine E_c rfl ?_
      exact E_rti rfl ⟨rfl, _, rfl, fun q => absurd q (by decide)⟩
    · refine E_ifF rfl (by rw [zb_T (Classical.not_not.mp hb4)]; rfl) ?_
      refine E_il rfl L2 ?_
      by_cases hb5 : p
      · refine E_ifT rfl (by rw [zb_T hb5]; rfl) ?_
        have hp := hb5
        obtain ⟨sl, hs, rfl⟩ := nJ_of2 (n := 3) hsl.1 hsl.2
        refine E_al rfl L0 ?_
        refine E_gr rfl hh (q := 78) rfl ?_
        refine E_il rfl L1 ?_
        refine E_ial rfl hh rfl (by omega) (by decide) (show gi h 78 sl = (gi h 78 sl) from rfl) ?_
        refine E_c rfl ?_
        by_cases hb6 : ¬ gi h 78 sl = -1
        · refine E_icT rfl (decide_eq_true hb6) ?_
          refine E_al rfl L0 ?_
          refine E_gr rfl hh (q := 79) rfl ?_
          refine E_il rfl L1 ?_
          have b7 : gn h 79 sl ≤ 60 := gn_hi hh (bd_u rfl (by omega)) (by decide)
          refine E_ial rfl hh rfl (by omega) (by decide) (gi_gn hh (bd_u rfl (by omega)) (by decide)) ?_
          refine E_al rfl L0 ?_
          refine E_call rfl (sp_places hh) (chk77 hh rfl rfl (by show 1 ≤ 8; decide)) (fun h8 r8 => ?_)
          rintro ⟨e8, f8, c8⟩
          rw [e8, f8]
          show Ends _ _ (44, lv, [.int (nJ (gn h 84 0)), .int (nJ (gn h 79 sl))], h, 0, 0) _
          refine E_ci 1 rfl (by decide) ?_
          refine E_bin rfl (pI_of _) ?_
          by_cases hb9 : gn h 79 sl + 1 = gn h 84 0
          · refine E_icT rfl (decide_eq_true ((pI_eq (by omega) (by omega)).mpr hb9)) ?_
            refine E_ci 0 rfl (by decide) ?_
            refine E_is rfl (fun lv10 L10_3 kp10 => ?_)
            have L10_0 := kp10 0 _ (by decide) rfl L0
            have L10_1 := kp10 1 _ (by decide) rfl L1
            have L10_2 := kp10 2 _ (by decide) rfl L2
            exact wc_loop hh hs hb9 hp (gn h 79 sl) (i := 0) lv10 (by omega) (fun i1 h1 => absurd h1 (Nat.not_lt_zero _)) L10_0 L10_1 L10_3
          · refine E_icF rfl (decide_eq_false (fun q => hb9 ((pI_eq (by omega) (by omega)).mp q))) ?_
            refine E_c rfl ?_
            exact E_rti rfl ⟨rfl, _, rfl, fun q => absurd q (by decide)⟩
        · refine E_icF rfl (decide_eq_false hb6) ?_
          refine E_c rfl ?_
          exact E_rti rfl ⟨rfl, _, rfl, fun q => absurd q (by decide)⟩
      · refine E_ifF rfl (by rw [zb_F hb5]; rfl) ?_
        refine E_c rfl ?_
        exact E_rti rfl ⟨rfl, _, rfl, fun q => absurd q (by decide)⟩
noncomputable def SM : List Rng := [(92, 0, 8), (94, 0, 8), (95, 0, 7), (96, 0, 17)]
noncomputable def SQ (h0 h' : pm_H) (r : Option Value) : Prop := r = none ∧ HH h' ∧ fr_g SM h0 h' ∧ ∀ v, 1 ≤ v → v ≤ gn h0 84 0 → dep (hg h') 8 v ∧ gn h' 92 v ≤ gn h0 84 0
theorem ls_loop {h0 : pm_H} {d sl : Nat} (hh0 : HH h0) (hCD : CD h0 sl) (j : Nat) : ∀ {h : pm_H} {i : Nat} (lv : List (Nat × Value)), i + j = gn h0 79 sl → HH h → fr_g SM h0 h → (∀ i1, i1 < i → gn h 95 i1 ≤ gn h0 84 0) → pm_get lv 0 = some (.ref 77) → pm_get lv 1 = some (.int (nJ sl)) → pm_get lv 2 = some (.int (nJ i)) → Ends (pm_at tX9_laysSlot) (pm_Rt pm_P (d + 3)) (2, lv, [], h, 0, 0) (SQ h0) := by
  have hP8 : gn h0 84 0 ≤ 8 := gn_hi hh0 rfl (by decide)
  have hs := hCD.1
  have hmP := hCD.2.1
  induction j with
  | zero =>
    intro h i lv hj hh hfr hc L0 L1 L2
    have hpe : gn h 84 0 = gn h0 84 0 := fr_gn hfr (rg_no rfl _)
    refine E_il rfl L2 ?_
    refine E_al rfl L0 ?_
    refine E_gr rfl hh (q := 79) rfl ?_
    refine E_il rfl L1 ?_
    refine E_ial rfl hh rfl (by omega) (by decide) (show gi h 79 sl = nJ ((gn h0 79 sl)) from by rw [fr_gi hfr (rg_no rfl _)]; exact gi_gn hh0 (bd_u rfl (by omega)) (by decide)) ?_
    refine E_icT rfl (decide_eq_true ((nJ_le (by omega) (by omega)).mpr (by omega))) ?_
    refine E_al rfl L0 ?_
    refine E_al rfl L0 ?_
    refine E_call rfl (sp_places hh) (chk77 hh rfl rfl (by show 1 ≤ 8; decide)) (fun h1 r1 => ?_)
    rintro ⟨e1, f1, c1⟩
    rw [e1, f1]
    show Ends _ _ (41, lv, [.int (nJ (gn h 84 0)), .ref 77], h, 0, 0) _
    refine E_ci 1 rfl (by decide) ?_
    refine E_bin rfl (nJ_add _ _) ?_
    refine E_call rfl (sp_reads0 (N := gn h 84 0 + 1) hh (by omega) (by omega) (fun j hj => by have := hc j (by omega); omega)) (chk77 hh rfl rfl (by show 0 ≤ 8; decide)) (fun h9 r9 => ?_)
    rintro ⟨e9, hh9, fr9, q9⟩
    rw [e9]
    show Ends _ _ (46, lv, [], h9, 0, 0) _
    exact E_ret rfl ⟨rfl, hh9, fr_trans hfr (fr_wk rfl fr9), fun v h1 h2 => by have := q9 v h1 (by omega); exact ⟨this.1, by omega⟩⟩
  | succ j ih =>
    intro h i lv hj hh hfr hc L0 L1 L2
    have hpe : gn h 84 0 = gn h0 84 0 := fr_gn hfr (rg_no rfl _)
    refine E_il rfl L2 ?_
    refine E_al rfl L0 ?_
    refine E_gr rfl hh (q := 79) rfl ?_
    refine E_il rfl L1 ?_
    refine E_ial rfl hh rfl (by omega) (by decide) (show gi h 79 sl = nJ ((gn h0 79 sl)) from by rw [fr_gi hfr (rg_no rfl _)]; exact gi_gn hh0 (bd_u rfl (by omega)) (by decide)) ?_
    refine E_icF rfl (decide_eq_false (fun q => absurd ((nJ_le (by omega) (by omega)).mp q) (by omega))) ?_
    have hci := hCD.2.2 i (by omega)
    have hgl : gl h 80 (60 * sl + i) = gl h0 80 (60 * sl + i) := fr_gl hfr (rg_no rfl _)
    refine E_al rfl L0 ?_
    refine E_gr rfl hh (q := 95) rfl ?_
    refine E_il rfl L2 ?_
    refine E_al rfl L0 ?_
    refine E_gr rfl hh (q := 80) rfl ?_
    refine E_ci 60 rfl (by decide) ?_
    refine E_il rfl L1 ?_
    refine E_bin rfl (nJ_mul _ _) ?_
    refine E_il rfl L2 ?_
    refine E_bin rfl (nJ_add _ _) ?_
    refine E_lal rfl hh rfl (by omega) (by decide) ?_
    refine E_l2i rfl (show (gl h 80 (((60 * sl) + i))).toInt32 = nJ (gl h0 80 (60 * sl + i)).toInt.toNat from (by rw [hgl]; exact l2i_nJ hci.1 (by omega))) ?_
    refine E_ias rfl hh rfl (by omega) (by decide) ?_
    have hh1 : HH (pt h 95 i (nJ ((gl h0 80 (60 * sl + i)).toInt.toNat))) := HH_ptn hh (bd_u rfl (by omega)) (by omega) (by omega) (by omega)
    refine E_inc rfl L2 (nJ_inc _) (fun lv2 L2_2 kp2 => ?_)
    have L2_0 := kp2 0 _ (by decide) rfl L0
    have L2_1 := kp2 1 _ (by decide) rfl L1
    refine E_goto rfl ?_
    refine ih lv2 (by omega) hh1 (fr_ptr (l := 0) (u := 7) rfl (by omega) (by omega) hfr) (fun i1 h1 => ?_) L2_0 L2_1 L2_2
    by_cases e : i1 = i
    · rw [e, gn_ptn hh (bd_u rfl (by omega)) (by omega) (by omega) (by omega)]; omega
    · rw [gn_ne (fun _ => e)]; exact hc i1 (by omega)
end
