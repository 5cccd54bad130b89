section
theorem sp_image8 {h : pm_H} {x : Int32} (I : IVh h) : Sp 20 121 h [.ref 0, .int x] (fun h' r => r = some (.int (imv x)) ∧ ∀ j, j < 3 → gi h' 52 j = if x = nJ j then 1 else gi h 52 j) := by
  refine Sp_of (d := 19) aiX8_image rfl rfl rfl ?_
  have L0 : pm_get (lv_args 0 [.ref 0, .int x]) 0 = some (.ref 0) := rfl
  have L1 : pm_get (lv_args 0 [.ref 0, .int x]) 1 = some (.int x) := rfl
  generalize lv_args 0 [.ref 0, .int x] = lv at L0 L1 ⊢
  refine E_il rfl L1 ?_
  by_cases hr : 0 ≤ x.toInt ∧ x.toInt ≤ 2
  · obtain ⟨k, hk, rfl⟩ := nJ_of2 (n := 2) hr.1 hr.2
    refine E_ifF rfl (decide_eq_false (nJ_lt0 (by omega))) ?_
    refine E_il rfl L1 ?_
    refine E_ci 3 rfl (by decide) ?_
    refine E_icT rfl (decide_eq_true ((nJ_lt (by omega) (by omega)).mpr (by omega))) ?_
    match k, hk with
    | 0, _ =>
      refine E_al rfl L0 ?_
      refine E_ogr rfl I.1 rfl (q := 24) rfl ?_
      refine E_il rfl L1 ?_
      refine E_aal rfl I.1 rfl (q := 25) rfl (by decide) ?_
      refine E_al rfl L0 ?_
      refine E_ogr rfl I.1 rfl (q := 15) rfl ?_
      refine E_call rfl (Sp_le (by omega) (Sp_sum (as := [.ref 25, .ref 15]) q904 I.1 ⟨rfl, rfl, trivial⟩ (fun _ hq => absurd hq List.not_mem_nil) (fun i hi => I.2.1 i (List.mem_of_elem_eq_true (List.all_eq_true.mp (show [41, 62].all (fun i => List.elem i CF) = true from rfl) i hi))))) (chkO (a := 25) I.1 rfl rfl rfl rfl (by show 0 ≤ 8; decide)) (fun h4 r4 => ?_)
      rintro ⟨hh4, fq4, C4, hC4, -, -, -, rv4⟩
      have e4 : r4 = none := by have e := List.mem_singleton.mp hC4; subst e; cases r4 with | none => rfl | some v => exact rv4.elim
      rw [e4]
      show Ends _ _ (25, lv, [], h4, 0, 0) _
      refine E_al rfl L0 ?_
      refine E_ogr rfl hh4 rfl (q := 52) rfl ?_
      refine E_il rfl L1 ?_
      refine E_ci 1 rfl (by decide) ?_
      refine E_zasA rfl hh4 rfl (by decide) ?_
      refine E_ci 0 rfl (by decide) ?_
      exact E_rti rfl ⟨by rw [imv_in hr]; rfl, kp_in hh4 rfl (by decide) (fun j => fr_gi fq4 (rg_no rfl j))⟩
    | 1, _ =>
      refine E_al rfl L0 ?_
      refine E_ogr rfl I.1 rfl (q := 24) rfl ?_
      refine E_il rfl L1 ?_
      refine E_aal rfl I.1 rfl (q := 34) rfl (by decide) ?_
      refine E_al rfl L0 ?_
      refine E_ogr rfl I.1 rfl (q := 15) rfl ?_
      refine E_call rfl (Sp_le (by omega) (Sp_sum (as := [.ref 34, .ref 15]) q903 I.1 ⟨rfl, rfl, trivial⟩ (fun _ hq => absurd hq List.not_mem_nil) (fun i hi => I.2.1 i (List.mem_of_elem_eq_true (List.all_eq_true.mp (show [41, 83].all (fun i => List.elem i CF) = true from rfl) i hi))))) (chkO (a := 34) I.1 rfl rfl rfl rfl (by show 0 ≤ 8; decide)) (fun h4 r4 => ?_)
      rintro ⟨hh4, fq4, C4, hC4, -, -, -, rv4⟩
      have e4 : r4 = none := by have e := List.mem_singleton.mp hC4; subst e; cases r4 with | none => rfl | some v => exact rv4.elim
      rw [e4]
      show Ends _ _ (25, lv, [], h4, 0, 0) _
      refine E_al rfl L0 ?_
      refine E_ogr rfl hh4 rfl (q := 52) rfl ?_
      refine E_il rfl L1 ?_
      refine E_ci 1 rfl (by decide) ?_
      refine E_zasA rfl hh4 rfl (by decide) ?_
      refine E_ci 0 rfl (by decide) ?_
      exact E_rti rfl ⟨by rw [imv_in hr]; rfl, kp_in hh4 rfl (by decide) (fun j => fr_gi fq4 (rg_no rfl j))⟩
    | 2, _ =>
      refine E_al rfl L0 ?_
      refine E_ogr rfl I.1 rfl (q := 24) rfl ?_
      refine E_il rfl L1 ?_
      refine E_aal rfl I.1 rfl (q := 43) rfl (by decide) ?_
      refine E_al rfl L0 ?_
      refine E_ogr rfl I.1 rfl (q := 15) rfl ?_
      refine E_call rfl (Sp_le (by omega) (Sp_sum (as := [.ref 43, .ref 15]) q902 I.1 ⟨rfl, rfl, trivial⟩ (fun _ hq => absurd hq List.not_mem_nil) (fun i hi => I.2.1 i (List.mem_of_elem_eq_true (List.all_eq_true.mp (show [41, 104].all (fun i => List.elem i CF) = true from rfl) i hi))))) (chkO (a := 43) I.1 rfl rfl rfl rfl (by show 0 ≤ 8; decide)) (fun h4 r4 => ?_)
      rintro ⟨hh4, fq4, C4, hC4, -, -, -, rv4⟩
      have e4 : r4 = none := by have e := List.mem_singleton.mp hC4; subst e; cases r4 with | none => rfl | some v => exact rv4.elim
      rw [e4]
      show Ends _ _ (25, lv, [], h4, 0, 0) _
      refine E_al rfl L0 ?_
      refine E_ogr rfl hh4 rfl (q := 52) rfl ?_
      refine E_il rfl L1 ?_
      refine E_ci 1 rfl (by decide) ?_
      refine E_zasA rfl hh4 rfl (by decide) ?_
      refine E_ci 0 rfl (by decide) ?_
      exact E_rti rfl ⟨by rw [imv_in hr]; rfl, kp_in hh4 rfl (by decide) (fun j => fr_gi fq4 (rg_no rfl j))⟩
  · have z0 : (0 : Int32).toInt = 0 := rfl
    by_cases h0 : x < 0
    · refine E_ifT rfl (decide_eq_true h0) ?_
      refine E_c rfl ?_
      exact E_rti rfl ⟨by rw [imv_no hr], kp_out hr (fun j => rfl)⟩
    · refine E_ifF rfl (decide_eq_false h0) ?_
      refine E_il rfl L1 ?_
      refine E_ci 3 rfl (by decide) ?_
      refine E_icF rfl (decide_eq_false (fun q => hr ?_)) ?_
      · have q1 := Int32.lt_iff_toInt_lt.mp q
        rw [nJ_toInt (by omega)] at q1
        have q2 : ¬ x.toInt < (0 : Int32).toInt := fun z => h0 (Int32.lt_iff_toInt_lt.mpr z)
        omega
      · refine E_c rfl ?_
        exact E_rti rfl ⟨by rw [imv_no hr], kp_out hr (fun j => rfl)⟩
theorem sp_back8 {h : pm_H} {x : Int32} (I : IVh h) : Sp 20 82 h [.ref 0, .int x] (fun h' r => r = some (.int (bkv 52 h x))) := by
  refine Sp_of (d := 19) aiX8_back rfl rfl rfl ?_
  have L0 : pm_get (lv_args 0 [.ref 0, .int x]) 0 = some (.ref 0) := rfl
  have L1 : pm_get (lv_args 0 [.ref 0, .int x]) 1 = some (.int x) := rfl
  generalize lv_args 0 [.ref 0, .int x] = lv at L0 L1 ⊢
  refine E_il rfl L1 ?_
  by_cases hr : 0 ≤ x.toInt ∧ x.toInt ≤ 2
  · obtain ⟨k, hk, rfl⟩ := nJ_of2 (n := 2) hr.1 hr.2
    refine E_ifF rfl (decide_eq_false (nJ_lt0 (by omega))) ?_
    refine E_il rfl L1 ?_
    refine E_ci 3 rfl (by decide) ?_
    refine E_icT rfl (decide_eq_true ((nJ_lt (by omega) (by omega)).mpr (by omega))) ?_
    refine E_al rfl L0 ?_
    refine E_ogr rfl I.1 rfl (q := 52) rfl ?_
    refine E_il rfl L1 ?_
    refine E_zalA rfl I.1 rfl (by omega) ?_
    by_cases hz : gi h 52 k = 0
    · refine E_ifF rfl (decide_eq_false (fun q => q hz)) ?_
      refine E_c rfl ?_
      exact E_rti rfl (by rw [bkv_6 hk hz])
    · refine E_ifT rfl (decide_eq_true hz) ?_
      have hb := bkv_0 hk hz
      match k, hk, hb with
      | 0, _, hb =>
        refine E_al rfl L0 ?_
        refine E_ogr rfl I.1 rfl (q := 15) rfl ?_
        refine E_al rfl L0 ?_
        refine E_ogr rfl I.1 rfl (q := 24) rfl ?_
        refine E_il rfl L1 ?_
        refine E_aal rfl I.1 rfl (q := 25) rfl (by decide) ?_
        refine E_call rfl (Sp_le (by omega) (Sp_sum (as := [.ref 15, .ref 25]) q926 I.1 ⟨rfl, rfl, trivial⟩ (fun _ hq => absurd hq List.not_mem_nil) (fun i hi => I.2.1 i (List.mem_of_elem_eq_true (List.all_eq_true.mp (show [41, 62].all (fun i => List.elem i CF) = true from rfl) i hi))))) (chkO (a := 15) I.1 rfl rfl rfl rfl (by show 0 ≤ 8; decide)) (fun h4 r4 => ?_)
        rintro ⟨hh4, fq4, C4, hC4, -, -, -, rv4⟩
        have e4 : r4 = none := by have e := List.mem_singleton.mp hC4; subst e; cases r4 with | none => rfl | some v => exact rv4.elim
        rw [e4]
        show Ends _ _ (37, lv, [], h4, 0, 0) _
        refine E_ci 0 rfl (by decide) ?_
        exact E_rti rfl (by rw [hb]; rfl)
      | 1, _, hb =>
        refine E_al rfl L0 ?_
        refine E_ogr rfl I.1 rfl (q := 15) rfl ?_
        refine E_al rfl L0 ?_
        refine E_ogr rfl I.1 rfl (q := 24) rfl ?_
        refine E_il rfl L1 ?_
        refine E_aal rfl I.1 rfl (q := 34) rfl (by decide) ?_
        refine E_call rfl (Sp_le (by omega) (Sp_sum (as := [.ref 15, .ref 34]) q925 I.1 ⟨rfl, rfl, trivial⟩ (fun _ hq => absurd hq List.not_mem_nil) (fun i hi => I.2.1 i (List.mem_of_elem_eq_true (List.all_eq_true.mp (show [41, 83].all (fun i => List.elem i CF) = true from rfl) i hi))))) (chkO (a := 15) I.1 rfl rfl rfl rfl (by show 0 ≤ 8; decide)) (fun h4 r4 => ?_)
        rintro ⟨hh4, fq4, C4, hC4, -, -, -, rv4⟩
        have e4 : r4 = none := by have e := List.mem_singleton.mp hC4; subst e; cases r4 with | none => rfl | some v => exact rv4.elim
        rw [e4]
        show Ends _ _ (37, lv, [], h4, 0, 0) _
        refine E_ci 0 rfl (by decide) ?_
        exact E_rti rfl (by rw [hb]; rfl)
      | 2, _, hb =>
        refine E_al rfl L0 ?_
        refine E_ogr rfl I.1 rfl (q := 15) rfl ?_
        refine E_al rfl L0 ?_
        refine E_ogr rfl I.1 rfl (q := 24) rfl ?_
        refine E_il rfl L1 ?_
        refine E_aal rfl I.1 rfl (q := 43) rfl (by decide) ?_
        refine E_call rfl (Sp_le (by omega) (Sp_sum (as := [.ref 15, .ref 43]) q924 I.1 ⟨rfl, rfl, trivial⟩ (fun _ hq => absurd hq List.not_mem_nil) (fun i hi => I.2.1 i (List.mem_of_elem_eq_true (List.all_eq_true.mp (show [41, 104].all (fun i => List.elem i CF) = true from rfl) i hi))))) (chkO (a := 15) I.1 rfl rfl rfl rfl (by show 0 ≤ 8; decide)) (fun h4 r4 => ?_)
        rintro ⟨hh4, fq4, C4, hC4, -, -, -, rv4⟩
        have e4 : r4 = none := by have e := List.mem_singleton.mp hC4; subst e; cases r4 with | none => rfl | some v => exact rv4.elim
        rw [e4]
        show Ends _ _ (37, lv, [], h4, 0, 0) _
        refine E_ci 0 rfl (by decide) ?_
        exact E_rti rfl (by rw [hb]; rfl)
  · have z0 : (0 : Int32).toInt = 0 := rfl
    by_cases h0 : x < 0
    · refine E_ifT rfl (decide_eq_true h0) ?_
      refine E_c rfl ?_
      exact E_rti rfl (by rw [bkv_no hr])
    · refine E_ifF rfl (decide_eq_false h0) ?_
      refine E_il rfl L1 ?_
      refine E_ci 3 rfl (by decide) ?_
      refine E_icF rfl (decide_eq_false (fun q => hr ?_)) ?_
      · have q1 := Int32.lt_iff_toInt_lt.mp q
        rw [nJ_toInt (by omega)] at q1
        have q2 : ¬ x.toInt < (0 : Int32).toInt := fun z => h0 (Int32.lt_iff_toInt_lt.mpr z)
        omega
      · refine E_c rfl ?_
        exact E_rti rfl (by rw [bkv_no hr])
noncomputable def half_image (h : pm_H) (x v : Int32) : Prop := TP h ∧ x = imv v ∧ ∀ j, j < 3 → gi h 52 j = if v = nJ j then 1 else gi h 88 j
theorem c8_image {h : pm_H} {v : Int32} (I : IVR h) : Sp 100 121 h [.ref 0, .int v] (fun h' r => IVh h' ∧ ∃ x : Int32, r = some (.int x) ∧ half_image h' x v) := by
  refine Sp_le (by omega) (Sp_mono ?_ (Sp_and (top_all (as := [.ref 0, .int v]) q905 (by decide +kernel) I.1 ⟨rfl, aI _, trivial⟩) (sp_image8 I.1)))
  rintro h' r ⟨⟨s1, s2, -⟩, rfl, s3⟩
  refine ⟨s1, _, rfl, TP_frB s2 rfl I.2.1, rfl, fun j hj => ?_⟩
  rw [s3 j hj, I.2.2 j hj, fr_gi s2 (rg_no rfl j)]
end
