section
theorem tp_code {h0 : pm_H} {d : Nat} {x : Int32} (hh0 : HH h0) (hR : RI 0 h0) : Sp (d + 30) 229 h0 [.ref 77, .int x] (TQ h0) := by
  refine Sp_of aiX9_code rfl rfl rfl ?_
  have L0 : pm_get (lv_args 0 [.ref 77, .int x]) 0 = some (.ref 77) := rfl
  have L1 : pm_get (lv_args 0 [.ref 77, .int x]) 1 = some (.int x) := rfl
  generalize lv_args 0 [.ref 77, .int x] = lv at L0 L1 ⊢
  refine E_al rfl L0 ?_
  refine E_ci 0 rfl (by decide) ?_
  refine E_pf rfl hh0 rfl ?_
  have hh1 : HH (pt h0 77 0 (nJ 0)) := HH_ptn hh0 rfl (by omega) (by omega) (by omega)
  have fr1 : fr_g TM h0 (pt h0 77 0 (nJ 0)) := fr_ptr (l := 0) (u := 0) rfl (by omega) (by omega) (fr_rf TM h0)
  refine E_al rfl L0 ?_
  refine E_call rfl (sp_isStreet hh1) (chk77 hh1 rfl rfl (by show 0 ≤ 8; decide)) (fun h2 r2 => ?_)
  rintro ⟨e2, f2⟩
  rw [e2, f2]
  show Ends _ _ (9, lv, [.int (zb (0 < (gi (pt h0 77 0 (nJ 0)) 83 0).toInt))], (pt h0 77 0 (nJ 0)), 0, 0) _
  by_cases hb3 : ¬ (0 < (gi (pt h0 77 0 (nJ 0)) 83 0).toInt)
  · refine E_ifT rfl (by rw [zb_F hb3]; rfl) ?_
    refine E_c rfl ?_
    exact E_rti rfl ⟨hh1, fr1, _, rfl⟩
  · refine E_ifF rfl (by rw [zb_T (Classical.not_not.mp hb3)]; rfl) ?_
    refine E_il rfl L1 ?_
    by_cases hb4 : 0 ≤ x.toInt
    · refine E_ifT rfl (decide_eq_true (show (0 : Int32) ≤ x from Int32.le_iff_toInt_le.mpr hb4)) ?_
      obtain ⟨k, hk, rfl⟩ := nJ_of2 (n := 2147483647) hb4 (ai_hi x)
      refine E_al rfl L0 ?_
      refine E_call rfl (Sp_le (by omega) (sp_lays (d := 0) hh1 (RI_fr hR rfl fr1))) (chk77 hh1 rfl rfl (by show 0 ≤ 8; decide)) (fun h5 r5 => ?_)
      rintro ⟨e5, hh5, fq5, wq5⟩
      rw [e5]
      have fr5 : fr_g TM h0 h5 := fr_trans fr1 (fr_wk rfl fq5)
      show Ends _ _ (23, lv, [], h5, 0, 0) _
      refine E_al rfl L0 ?_
      refine E_call rfl (Sp_le (by omega) (sp_isLawful (d := 0) hh5)) (chk77 hh5 rfl rfl (by show 0 ≤ 8; decide)) (fun h6 r6 => ?_)
      rintro ⟨e6, f6⟩
      rw [e6]
      rcases f6 with f6 | ⟨f6, lw6⟩
      · rw [f6]
        show Ends _ _ (27, lv, [.int (nJ 0)], h5, 0, 0) _
        refine E_ifT rfl (by decide) ?_
        refine E_c rfl ?_
        exact E_rti rfl ⟨hh5, fr5, _, rfl⟩
      · rw [f6]
        show Ends _ _ (27, lv, [.int (nJ 1)], h5, 0, 0) _
        refine E_ifF rfl (by decide) ?_
        refine E_il rfl L1 ?_
        refine E_al rfl L0 ?_
        refine E_call rfl (sp_places hh5) (chk77 hh5 rfl rfl (by show 1 ≤ 8; decide)) (fun h7 r7 => ?_)
        rintro ⟨e7, f7, c7⟩
        rw [e7, f7]
        show Ends _ _ (35, lv, [.int (nJ (gn h5 84 0)), .int (nJ k)], h5, 0, 0) _
        refine E_ci 1 rfl (by decide) ?_
        refine E_bin rfl (pI_of _) ?_
        by_cases hb8 : k + 1 < gn h5 84 0
        · refine E_icT rfl (decide_eq_true ((pI_lt (by omega) (by omega)).mpr hb8)) ?_
          have hP8 : gn h5 84 0 ≤ 8 := gn_hi hh5 rfl (by decide)
          have hCP := lw6.1
          refine E_al rfl L0 ?_
          refine E_call rfl (Sp_le (by omega) (sp_laysTree (d := 0) hh5 lw6 wq5)) (chk77 hh5 rfl rfl (by show 0 ≤ 8; decide)) (fun h9 r9 => ?_)
          rintro ⟨e9, hh9, fq9, dq9⟩
          rw [e9]
          have fr9 : fr_g TM h0 h9 := fr_trans fr5 (fr_wk rfl fq9)
          have pe9 : gn h9 84 0 = gn h5 84 3 := by rw [fr_gn fq9 (rg_no rfl _)]; exact lw6.1.symm
          show Ends _ _ (46, lv, [], h9, 0, 0) _
          refine E_al rfl L0 ?_
          refine E_call rfl (Sp_le (by omega) (sp_laysCode (d := 0) hh9 (by omega) (fun v h1 h2 => by have := dq9 v h1 (by omega); exact ⟨this.1, by omega⟩))) (chk77 hh9 rfl rfl (by show 0 ≤ 8; decide)) (fun h10 r10 => ?_)
          rintro ⟨e10, hh10, fq10⟩
          rw [e10]
          have fr10 : fr_g TM h0 h10 := fr_trans fr9 (fr_wk rfl fq10)
          show Ends _ _ (50, lv, [], h10, 0, 0) _
          refine E_al rfl L0 ?_
          refine E_gr rfl hh10 (q := 95) rfl ?_
          refine E_il rfl L1 ?_
          have b11 : gn h10 95 k ≤ 8 := gn_hi hh10 (bd_u rfl (by omega)) (by decide)
          refine E_ial rfl hh10 rfl (by omega) (by decide) (gi_gn hh10 (bd_u rfl (by omega)) (by decide)) ?_
          exact E_rti rfl ⟨hh10, fr10, _, rfl⟩
        · refine E_icF rfl (decide_eq_false (fun q => hb8 ((pI_lt (by omega) (by omega)).mp q))) ?_
          refine E_c rfl ?_
          exact E_rti rfl ⟨hh5, fr5, _, rfl⟩
    · refine E_ifF rfl (decide_eq_false (fun q => hb4 (Int32.le_iff_toInt_le.mp q))) ?_
      refine E_c rfl ?_
      exact E_rti rfl ⟨hh1, fr1, _, rfl⟩
end
section
/-! by hand: the ring (written by gen_t13.py) -/
noncomputable def QM : List Rng := [(90, 0, 9), (91, 0, 7)]
noncomputable def hq (h : pm_H) (q : Nat) : Int := (gi h 90 q).toInt
theorem hq_m1 {h : pm_H} {q : Nat} : gi h 90 q = -1 ↔ hq h q = -1 := ⟨fun e => by unfold hq; rw [e]; rfl, fun e => Int32.toInt_inj.mp e⟩
noncomputable def RF (h0 h : pm_H) (P c : Nat) : Prop := HH h ∧ fr_g QM h0 h ∧ cntf (hq h) 10 (P + 1) ≤ c
theorem RF_add {h0 h : pm_H} {P c v : Nat} (hP : P ≤ 8) (hc : c < 8) (R : RF h0 h P c) (h1 : 1 ≤ v) (h2 : v ≤ P + 1) : RF h0 (pt (pt h 90 v (nJ c)) 91 c (nJ v)) P (c + 1) := by
  obtain ⟨r1, r2, r3⟩ := R
  have hh1 : HH (pt h 90 v (nJ c)) := HH_ptn r1 (bd_u rfl (by omega)) (by omega) (by omega) (by omega)
  have hh2 : HH (pt (pt h 90 v (nJ c)) 91 c (nJ v)) := HH_ptn hh1 (bd_u rfl (by omega)) (by omega) (by omega) (by omega)
  refine ⟨hh2, fr_ptr (l := 0) (u := 7) rfl (by omega) (by omega) (fr_ptr (l := 0) (u := 9) rfl (by omega) (by omega) r2), ?_⟩
  have e : ∀ q, q ≤ P + 1 → q ≠ v → hq (pt (pt h 90 v (nJ c)) 91 c (nJ v)) q = hq h q := fun q _ hq' => by
    unfold hq
    rw [gi_ne (by omega), gi_ne (fun _ => hq')]
  have k1 := cntf_inc (f := hq h) (g := hq (pt (pt h 90 v (nJ c)) 91 c (nJ v))) (v := v) (R := P + 1) e (by omega)
  rw [if_pos h2] at k1
  cases cntf_weak (f := hq h) (v := v) (P + 1) with
  | inl q => omega
  | inr q => omega
theorem sp_shiftedOf {h : pm_H} {d c s : Nat} (hh : HH h) (hc : c < 8) (hs : s ≤ 8) (hw : 1 ≤ gn h 89 c) : Sp (d + 2) 346 h [.ref 77, .int (nJ c), .int (nJ s)] (fun h' r => h' = h ∧ r = some (.int (nJ ((gn h 89 c - 1 + s) % (gn h 84 0 + 1) + 1)))) := by
  refine Sp_of aiX9_shiftedOf rfl rfl rfl ?_
  refine E_al rfl (show pm_get (lv_args 0 [.ref 77, .int (nJ c), .int (nJ s)]) 0 = _ from rfl) ?_
  refine E_gr rfl hh (q := 89) rfl ?_
  refine E_il rfl (show pm_get (lv_args 0 [.ref 77, .int (nJ c), .int (nJ s)]) 1 = _ from rfl) ?_
  have b1 : gn h 89 c ≤ 8 := gn_hi hh (bd_u rfl (by omega)) (by decide)
  refine E_ial rfl hh rfl (by omega) (by decide) (gi_gn hh (bd_u rfl (by omega)) (by decide)) ?_
  refine E_ci 1 rfl (by decide) ?_
  refine E_bin rfl (nJ_sub (by omega)) ?_
  refine E_il rfl (show pm_get (lv_args 0 [.ref 77, .int (nJ c), .int (nJ s)]) 2 = _ from rfl) ?_
  refine E_bin rfl (nJ_add _ _) ?_
  refine E_al rfl (show pm_get (lv_args 0 [.ref 77, .int (nJ c), .int (nJ s)]) 0 = _ from rfl) ?_
  refine E_call rfl (sp_places hh) (chk77 hh rfl rfl (by show 1 ≤ 8; decide)) (fun h2 r2 => ?_)
  rintro ⟨e2, f2, c2⟩
  rw [e2, f2]
  show Ends _ _ (14, (lv_args 0 [.ref 77, .int (nJ c), .int (nJ s)]), [.int (nJ (gn h 84 0)), .int (nJ (((gn h 89 c) - 1) + s))], h, 0, 0) _
  refine E_ci 1 rfl (by decide) ?_
  refine E_bin rfl (nJ_add _ _) ?_
  refine E_div rfl (fun q => absurd ((nJ_eq0 (by omega)).mp q) (by omega)) (nJ_mod (by omega) (by omega) (by omega)) ?_
  refine E_ci 1 rfl (by decide) ?_
  refine E_bin rfl (nJ_add _ _) ?_
  exact E_rti rfl ⟨rfl, rfl⟩
theorem rf_last {h0 h : pm_H} {d P : Nat} (hP8 : P ≤ 8) (hh : HH h) (hfr : fr_g QM h0 h) (j : Nat) : ∀ {p : Nat} (lv : List (Nat × Value)), p + j = P + 2 → pm_get lv 0 = some (.ref 77) → pm_get lv 2 = some (.int (nJ (P + 1))) → pm_get lv 3 = some (.int (nJ p)) → Ends (pm_at tX9_ringFree) (pm_Rt pm_P (d + 2)) (92, lv, [], h, 0, 0) (fun h' r => HH h' ∧ fr_g QM h0 h' ∧ ∃ x : Int32, r = some (.int x)) := by
  induction j with
  | zero =>
    intro p lv hj L0 L2 L3
    refine E_il rfl L3 ?_
    refine E_il rfl L2 ?_
    refine E_icT rfl (decide_eq_true ((nJ_lt (by omega) (by omega)).mpr (by omega))) ?_
    refine E_c rfl ?_
    exact E_rti rfl ⟨hh, hfr, _, rfl⟩
  | succ j ih =>
    intro p lv hj L0 L2 L3
    refine E_il rfl L3 ?_
    refine E_il rfl L2 ?_
    refine E_icF rfl (decide_eq_false (fun q => absurd ((nJ_lt (by omega) (by omega)).mp q) (by omega))) ?_
    refine E_al rfl L0 ?_
    refine E_gr rfl hh (q := 90) rfl ?_
    refine E_il rfl L3 ?_
    refine E_ial rfl hh rfl (by omega) (by decide) (show gi h 90 p = (gi h 90 p) from rfl) ?_
    refine E_c rfl ?_
    by_cases hb1 : ¬ (gi h 90 p) = -1
    · refine E_icT rfl (decide_eq_true hb1) ?_
      refine E_inc rfl L3 (nJ_inc _) (fun lv2 L2_3 kp2 => ?_)
      have L2_0 := kp2 0 _ (by decide) rfl L0
      have L2_2 := kp2 2 _ (by decide) rfl L2
      refine E_goto rfl ?_
      exact ih lv2 (by omega) L2_0 L2_2 L2_3
    · refine E_icF rfl (decide_eq_false hb1) ?_
      refine E_il rfl L3 ?_
      exact E_rti rfl ⟨hh, hfr, _, rfl⟩
theorem rf_in {h0 h : pm_H} {d P s c : Nat} (hP8 : P ≤ 8) (hc : c < 8) (R : RF h0 h P c) (K : ∀ {h : pm_H} (lv : List (Nat × Value)), RF h0 h P (c + 1) → pm_get lv 0 = some (.ref 77) → pm_get lv 1 = some (.int (nJ s)) → pm_get lv 2 = some (.int (nJ (P + 1))) → pm_get lv 3 = some (.int (nJ (c + 1))) → Ends (pm_at tX9_ringFree) (pm_Rt pm_P (d + 2)) (30, lv, [], h, 0, 0) (fun h' r => HH h' ∧ fr_g QM h0 h' ∧ ∃ x : Int32, r = some (.int x))) (e : Nat) : ∀ {v : Nat} (lv : List (Nat × Value)), 1 ≤ v → v ≤ P + 1 → hfd (hq h) (P + 1) e v → pm_get lv 0 = some (.ref 77) → pm_get lv 1 = some (.int (nJ s)) → pm_get lv 2 = some (.int (nJ (P + 1))) → pm_get lv 3 = some (.int (nJ c)) → pm_get lv 4 = some (.int (nJ v)) → Ends (pm_at tX9_ringFree) (pm_Rt pm_P (d + 2)) (46, lv, [], h, 0, 0) (fun h' r => HH h' ∧ fr_g QM h0 h' ∧ ∃ x : Int32, r = some (.int x)) := by
  induction e with
  | zero =>
    intro v lv hv1 hv2 hd L0 L1 L2 L3 L4
    have hd : hq h v = -1 := hd
    refine E_al rfl L0 ?_
    refine E_gr rfl R.1 (q := 90) rfl ?_
    refine E_il rfl L4 ?_
    refine E_ial rfl R.1 rfl (by omega) (by decide) (show gi h 90 v = (gi h 90 v) from rfl) ?_
    refine E_c rfl ?_
    refine E_icT rfl (decide_eq_true (hq_m1.mpr hd)) ?_
    refine E_al rfl L0 ?_
    refine E_gr rfl R.1 (q := 90) rfl ?_
    refine E_il rfl L4 ?_
    refine E_il rfl L3 ?_
    refine E_ias rfl R.1 rfl (by omega) (by decide) ?_
    have hh1 : HH (pt h 90 v (nJ c)) := HH_ptn R.1 (bd_u rfl (by omega)) (by omega) (by omega) (by omega)
    refine E_al rfl L0 ?_
    refine E_gr rfl hh1 (q := 91) rfl ?_
    refine E_il rfl L3 ?_
    refine E_il rfl L4 ?_
    refine E_ias rfl hh1 rfl (by omega) (by decide) ?_
    have hh2 : HH (pt (pt h 90 v (nJ c)) 91 c (nJ v)) := HH_ptn hh1 (bd_u rfl (by omega)) (by omega) (by omega) (by omega)
    refine E_inc rfl L3 (nJ_inc _) (fun lv3 L3_3 kp3 => ?_)
    have L3_0 := kp3 0 _ (by decide) rfl L0
    have L3_1 := kp3 1 _ (by decide) rfl L1
    have L3_2 := kp3 2 _ (by decide) rfl L2
    have L3_4 := kp3 4 _ (by decide) rfl L4
    refine E_goto rfl ?_
    exact K lv3 (RF_add hP8 hc R hv1 hv2) L3_0 L3_1 L3_2 L3_3
  | succ e ih =>
    intro v lv hv1 hv2 hd L0 L1 L2 L3 L4
    refine E_al rfl L0 ?_
    refine E_gr rfl R.1 (q := 90) rfl ?_
    refine E_il rfl L4 ?_
    refine E_ial rfl R.1 rfl (by omega) (by decide) (show gi h 90 v = (gi h 90 v) from rfl) ?_
    refine E_c rfl ?_
    by_cases hb1 : (gi h 90 v) = -1
    · refine E_icT rfl (decide_eq_true hb1) ?_
      refine E_al rfl L0 ?_
      refine E_gr rfl R.1 (q := 90) rfl ?_
      refine E_il rfl L4 ?_
      refine E_il rfl L3 ?_
      refine E_ias rfl R.1 rfl (by omega) (by decide) ?_
      have hh2 : HH (pt h 90 v (nJ c)) := HH_ptn R.1 (bd_u rfl (by omega)) (by omega) (by omega) (by omega)
      refine E_al rfl L0 ?_
      refine E_gr rfl hh2 (q := 91) rfl ?_
      refine E_il rfl L3 ?_
      refine E_il rfl L4 ?_
      refine E_ias rfl hh2 rfl (by omega) (by decide) ?_
      have hh3 : HH (pt (pt h 90 v (nJ c)) 91 c (nJ v)) := HH_ptn hh2 (bd_u rfl (by omega)) (by omega) (by omega) (by omega)
      refine E_inc rfl L3 (nJ_inc _) (fun lv4 L4_3 kp4 => ?_)
      have L4_0 := kp4 0 _ (by decide) rfl L0
      have L4_1 := kp4 1 _ (by decide) rfl L1
      have L4_2 := kp4 2 _ (by decide) rfl L2
      have L4_4 := kp4 4 _ (by decide) rfl L4
      refine E_goto rfl ?_
      exact K lv4 (RF_add hP8 hc R hv1 hv2) L4_0 L4_1 L4_2 L4_3
    · refine E_icF rfl (decide_eq_false hb1) ?_
      have hmd := Nat.mod_lt v (show 0 < P + 1 by omega)
      refine E_il rfl L4 ?_
      refine E_il rfl L2 ?_
      refine E_div rfl (fun q => absurd ((nJ_eq0 (by omega)).mp q) (by omega)) (nJ_mod (by omega) (by omega) (by omega)) ?_
      refine E_ci 1 rfl (by decide) ?_
      refine E_bin rfl (nJ_add _ _) ?_
      refine E_is rfl (fun lv5 L5_4 kp5 => ?_)
      have L5_0 := kp5 0 _ (by decide) rfl L0
      have L5_1 := kp5 1 _ (by decide) rfl L1
      have L5_2 := kp5 2 _ (by decide) rfl L2
      have L5_3 := kp5 3 _ (by decide) rfl L3
      refine E_goto rfl ?_
      refine ih lv5 (by omega) (by omega) ?_ L5_0 L5_1 L5_2 L5_3 L5_4
      cases hd with
      | inl q => exact absurd (hq_m1.mpr q) hb1
      | inr q => exact q
end
