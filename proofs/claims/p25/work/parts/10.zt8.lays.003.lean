section
theorem tp_visit {h0 : pm_H} {d : Nat} {x : Int32} (hh0 : HH h0) (hR : RI 0 h0) : Sp (d + 30) 368 h0 [.ref 77, .int x] (TQ h0) := by
  refine Sp_of aiX9_visit rfl rfl rfl ?_
  have L0 : pm_get (lv_args 0 [.ref 77, .int x]) 0 = some (.ref 77) := rfl
  have L1 : pm_get (lv_args 0 [.ref 77, .int x]) 1 = some (.int x) := rfl
  generalize lv_args 0 [.ref 77, .int x] = lv at L0 L1 ⊢
  refine E_al rfl L0 ?_
  refine E_ci 0 rfl (by decide) ?_
  refine E_pf rfl hh0 rfl ?_
  have hh1 : HH (pt h0 77 0 (nJ 0)) := HH_ptn hh0 rfl (by omega) (by omega) (by omega)
  have fr1 : fr_g TM h0 (pt h0 77 0 (nJ 0)) := fr_ptr (l := 0) (u := 0) rfl (by omega) (by omega) (fr_rf TM h0)
  refine E_al rfl L0 ?_
  refine E_il rfl L1 ?_
  refine E_call rfl (Sp_le (by omega) (sp_isNode (d := 0) hh1)) (chk77 hh1 rfl rfl (by show 0 ≤ 8; decide)) (fun h2 r2 => ?_)
  rintro ⟨e2, f2⟩
  rw [e2, f2]
  show Ends _ _ (10, lv, [.int (zb (0 < (gi (pt h0 77 0 (nJ 0)) 83 0).toInt ∧ 0 ≤ x.toInt ∧ x.toInt ≤ (gn (pt h0 77 0 (nJ 0)) 84 0 : Int)))], (pt h0 77 0 (nJ 0)), 0, 0) _
  by_cases hb3 : 0 < (gi (pt h0 77 0 (nJ 0)) 83 0).toInt ∧ 0 ≤ x.toInt ∧ x.toInt ≤ (gn (pt h0 77 0 (nJ 0)) 84 0 : Int)
  · refine E_ifT rfl (by rw [zb_T hb3]; rfl) ?_
    have hP8 : gn (pt h0 77 0 (nJ 0)) 84 0 ≤ 8 := gn_hi hh1 rfl (by decide)
    obtain ⟨k, hk, rfl⟩ := nJ_of2 (n := gn (pt h0 77 0 (nJ 0)) 84 0) hb3.2.1 hb3.2.2
    refine E_al rfl L0 ?_
    refine E_call rfl (Sp_le (by omega) (sp_lays (d := 0) hh1 (RI_fr hR rfl fr1))) (chk77 hh1 rfl rfl (by show 0 ≤ 8; decide)) (fun h4 r4 => ?_)
    rintro ⟨e4, hh4, fq4, wq4⟩
    rw [e4]
    have fr4 : fr_g TM h0 h4 := fr_trans fr1 (fr_wk rfl fq4)
    show Ends _ _ (20, lv, [], h4, 0, 0) _
    refine E_al rfl L0 ?_
    refine E_call rfl (Sp_le (by omega) (sp_isLawful (d := 0) hh4)) (chk77 hh4 rfl rfl (by show 0 ≤ 8; decide)) (fun h5 r5 => ?_)
    rintro ⟨e5, f5⟩
    rw [e5]
    rcases f5 with f5 | ⟨f5, lw5⟩
    · rw [f5]
      show Ends _ _ (24, lv, [.int (nJ 0)], h4, 0, 0) _
      refine E_ifF rfl (by decide) ?_
      refine E_c rfl ?_
      exact E_rti rfl ⟨hh4, fr4, _, rfl⟩
    · rw [f5]
      show Ends _ _ (24, lv, [.int (nJ 1)], h4, 0, 0) _
      refine E_ifT rfl (by decide) ?_
      refine E_al rfl L0 ?_
      refine E_call rfl (Sp_le (by omega) (sp_searches (d := 0) hh4 lw5)) (chk77 hh4 rfl rfl (by show 0 ≤ 8; decide)) (fun h6 r6 => ?_)
      rintro ⟨e6, hh6, fq6, dq6⟩
      rw [e6]
      have fr6 : fr_g TM h0 h6 := fr_trans fr4 (fr_wk rfl fq6)
      have pe6 : gn h6 84 0 = gn h4 84 3 := by rw [fr_gn fq6 (rg_no rfl _)]; exact lw5.1.symm
      show Ends _ _ (33, lv, [], h6, 0, 0) _
      refine E_al rfl L0 ?_
      refine E_gr rfl hh6 (q := 98) rfl ?_
      refine E_il rfl L1 ?_
      have b7 : gn h6 98 k ≤ 8 := gn_hi hh6 (bd_u rfl (by omega)) (by decide)
      refine E_ial rfl hh6 rfl (by omega) (by decide) (gi_gn hh6 (bd_u rfl (by omega)) (by decide)) ?_
      exact E_rti rfl ⟨hh6, fr6, _, rfl⟩
  · refine E_ifF rfl (by rw [zb_F hb3]; rfl) ?_
    refine E_c rfl ?_
    exact E_rti rfl ⟨hh1, fr1, _, rfl⟩
theorem tp_inversions {h0 : pm_H} {d : Nat} (hh0 : HH h0) (hR : RI 0 h0) : Sp (d + 30) 263 h0 [.ref 77] (TQ h0) := by
  refine Sp_of aiX9_inversions rfl rfl rfl ?_
  have L0 : pm_get (lv_args 0 [.ref 77]) 0 = some (.ref 77) := rfl
  generalize lv_args 0 [.ref 77] = lv at L0 ⊢
  refine E_al rfl L0 ?_
  refine E_ci 0 rfl (by decide) ?_
  refine E_pf rfl hh0 rfl ?_
  have hh1 : HH (pt h0 77 0 (nJ 0)) := HH_ptn hh0 rfl (by omega) (by omega) (by omega)
  have fr1 : fr_g TM h0 (pt h0 77 0 (nJ 0)) := fr_ptr (l := 0) (u := 0) rfl (by omega) (by omega) (fr_rf TM h0)
  refine E_al rfl L0 ?_
  refine E_call rfl (sp_isStreet hh1) (chk77 hh1 rfl rfl (by show 0 ≤ 8; decide)) (fun h2 r2 => ?_)
  rintro ⟨e2, f2⟩
  rw [e2, f2]
  show Ends _ _ (9, lv, [.int (zb (0 < (gi (pt h0 77 0 (nJ 0)) 83 0).toInt))], (pt h0 77 0 (nJ 0)), 0, 0) _
  by_cases hb3 : 0 < (gi (pt h0 77 0 (nJ 0)) 83 0).toInt
  · refine E_ifT rfl (by rw [zb_T hb3]; rfl) ?_
    refine E_al rfl L0 ?_
    refine E_call rfl (Sp_le (by omega) (sp_lays (d := 0) hh1 (RI_fr hR rfl fr1))) (chk77 hh1 rfl rfl (by show 0 ≤ 8; decide)) (fun h4 r4 => ?_)
    rintro ⟨e4, hh4, fq4, wq4⟩
    rw [e4]
    have fr4 : fr_g TM h0 h4 := fr_trans fr1 (fr_wk rfl fq4)
    show Ends _ _ (19, lv, [], h4, 0, 0) _
    refine E_al rfl L0 ?_
    refine E_call rfl (Sp_le (by omega) (sp_isLawful (d := 0) hh4)) (chk77 hh4 rfl rfl (by show 0 ≤ 8; decide)) (fun h5 r5 => ?_)
    rintro ⟨e5, f5⟩
    rw [e5]
    rcases f5 with f5 | ⟨f5, lw5⟩
    · rw [f5]
      show Ends _ _ (23, lv, [.int (nJ 0)], h4, 0, 0) _
      refine E_ifF rfl (by decide) ?_
      refine E_c rfl ?_
      exact E_rti rfl ⟨hh4, fr4, _, rfl⟩
    · rw [f5]
      show Ends _ _ (23, lv, [.int (nJ 1)], h4, 0, 0) _
      refine E_ifT rfl (by decide) ?_
      refine E_al rfl L0 ?_
      refine E_call rfl (Sp_le (by omega) (sp_laysTree (d := 0) hh4 lw5 wq4)) (chk77 hh4 rfl rfl (by show 0 ≤ 8; decide)) (fun h6 r6 => ?_)
      rintro ⟨e6, hh6, fq6, dq6⟩
      rw [e6]
      have fr6 : fr_g TM h0 h6 := fr_trans fr4 (fr_wk rfl fq6)
      have pe6 : gn h6 84 0 = gn h4 84 3 := by rw [fr_gn fq6 (rg_no rfl _)]; exact lw5.1.symm
      show Ends _ _ (32, lv, [], h6, 0, 0) _
      refine E_al rfl L0 ?_
      refine E_al rfl L0 ?_
      refine E_call rfl (sp_places hh6) (chk77 hh6 rfl rfl (by show 1 ≤ 8; decide)) (fun h7 r7 => ?_)
      rintro ⟨e7, f7, c7⟩
      rw [e7, f7]
      show Ends _ _ (37, lv, [.int (nJ (gn h6 84 0)), .ref 77], h6, 0, 0) _
      refine E_call rfl (Sp_le (by omega) (sp_turnedIn (d := 0) hh6 (by omega) (fun v h1 h2 => (fun v h1 h2 => (dq6 v h1 h2).1) v h1 (by omega)))) (chk77 hh6 rfl rfl (by show 0 ≤ 8; decide)) (fun h8 r8 => ?_)
      rintro ⟨e8, x8, f8⟩
      rw [e8, f8]
      show Ends _ _ (40, lv, [.int x8], h6, 0, 0) _
      exact E_rti rfl ⟨hh6, fr6, _, rfl⟩
  · refine E_ifF rfl (by rw [zb_F hb3]; rfl) ?_
    refine E_c rfl ?_
    exact E_rti rfl ⟨hh1, fr1, _, rfl⟩
theorem tp_turned {h0 : pm_H} {d : Nat} (hh0 : HH h0) (hR : RI 0 h0) : Sp (d + 30) 364 h0 [.ref 77] (TQ h0) := by
  refine Sp_of aiX9_turned rfl rfl rfl ?_
  have L0 : pm_get (lv_args 0 [.ref 77]) 0 = some (.ref 77) := rfl
  generalize lv_args 0 [.ref 77] = lv at L0 ⊢
  refine E_al rfl L0 ?_
  refine E_ci 0 rfl (by decide) ?_
  refine E_pf rfl hh0 rfl ?_
  have hh1 : HH (pt h0 77 0 (nJ 0)) := HH_ptn hh0 rfl (by omega) (by omega) (by omega)
  have fr1 : fr_g TM h0 (pt h0 77 0 (nJ 0)) := fr_ptr (l := 0) (u := 0) rfl (by omega) (by omega) (fr_rf TM h0)
  refine E_al rfl L0 ?_
  refine E_call rfl (sp_isStreet hh1) (chk77 hh1 rfl rfl (by show 0 ≤ 8; decide)) (fun h2 r2 => ?_)
  rintro ⟨e2, f2⟩
  rw [e2, f2]
  show Ends _ _ (9, lv, [.int (zb (0 < (gi (pt h0 77 0 (nJ 0)) 83 0).toInt))], (pt h0 77 0 (nJ 0)), 0, 0) _
  by_cases hb3 : 0 < (gi (pt h0 77 0 (nJ 0)) 83 0).toInt
  · refine E_ifT rfl (by rw [zb_T hb3]; rfl) ?_
    refine E_al rfl L0 ?_
    refine E_call rfl (Sp_le (by omega) (sp_lays (d := 0) hh1 (RI_fr hR rfl fr1))) (chk77 hh1 rfl rfl (by show 0 ≤ 8; decide)) (fun h4 r4 => ?_)
    rintro ⟨e4, hh4, fq4, wq4⟩
    rw [e4]
    have fr4 : fr_g TM h0 h4 := fr_trans fr1 (fr_wk rfl fq4)
    show Ends _ _ (19, lv, [], h4, 0, 0) _
    refine E_al rfl L0 ?_
    refine E_call rfl (Sp_le (by omega) (sp_isLawful (d := 0) hh4)) (chk77 hh4 rfl rfl (by show 0 ≤ 8; decide)) (fun h5 r5 => ?_)
    rintro ⟨e5, f5⟩
    rw [e5]
    rcases f5 with f5 | ⟨f5, lw5⟩
    · rw [f5]
      show Ends _ _ (23, lv, [.int (nJ 0)], h4, 0, 0) _
      refine E_ifF rfl (by decide) ?_
      refine E_c rfl ?_
      exact E_rti rfl ⟨hh4, fr4, _, rfl⟩
    · rw [f5]
      show Ends _ _ (23, lv, [.int (nJ 1)], h4, 0, 0) _
      refine E_ifT rfl (by decide) ?_
      refine E_al rfl L0 ?_
      refine E_call rfl (Sp_le (by omega) (sp_searches (d := 0) hh4 lw5)) (chk77 hh4 rfl rfl (by show 0 ≤ 8; decide)) (fun h6 r6 => ?_)
      rintro ⟨e6, hh6, fq6, dq6⟩
      rw [e6]
      have fr6 : fr_g TM h0 h6 := fr_trans fr4 (fr_wk rfl fq6)
      have pe6 : gn h6 84 0 = gn h4 84 3 := by rw [fr_gn fq6 (rg_no rfl _)]; exact lw5.1.symm
      show Ends _ _ (32, lv, [], h6, 0, 0) _
      refine E_al rfl L0 ?_
      refine E_al rfl L0 ?_
      refine E_call rfl (sp_places hh6) (chk77 hh6 rfl rfl (by show 1 ≤ 8; decide)) (fun h7 r7 => ?_)
      rintro ⟨e7, f7, c7⟩
      rw [e7, f7]
      show Ends _ _ (37, lv, [.int (nJ (gn h6 84 0)), .ref 77], h6, 0, 0) _
      refine E_call rfl (Sp_le (by omega) (sp_turnedIn (d := 0) hh6 (by omega) (fun v h1 h2 => dq6 v h1 (by omega)))) (chk77 hh6 rfl rfl (by show 0 ≤ 8; decide)) (fun h8 r8 => ?_)
      rintro ⟨e8, x8, f8⟩
      rw [e8, f8]
      show Ends _ _ (40, lv, [.int x8], h6, 0, 0) _
      exact E_rti rfl ⟨hh6, fr6, _, rfl⟩
  · refine E_ifF rfl (by rw [zb_F hb3]; rfl) ?_
    refine E_c rfl ?_
    exact E_rti rfl ⟨hh1, fr1, _, rfl⟩
theorem tp_kids {h0 : pm_H} {d : Nat} {x : Int32} (hh0 : HH h0) (hR : RI 0 h0) : Sp (d + 30) 284 h0 [.ref 77, .int x] (TQ h0) := by
  refine Sp_of aiX9_kids rfl rfl rfl ?_
  have L0 : pm_get (lv_args 0 [.ref 77, .int x]) 0 = some (.ref 77) := rfl
  have L1 : pm_get (lv_args 0 [.ref 77, .int x]) 1 = some (.int x) := rfl
  generalize lv_args 0 [.ref 77, .int x] = lv at L0 L1 ⊢
  refine E_al rfl L0 ?_
  refine E_ci 0 rfl (by decide) ?_
  refine E_pf rfl hh0 rfl ?_
  have hh1 : HH (pt h0 77 0 (nJ 0)) := HH_ptn hh0 rfl (by omega) (by omega) (by omega)
  have fr1 : fr_g TM h0 (pt h0 77 0 (nJ 0)) := fr_ptr (l := 0) (u := 0) rfl (by omega) (by omega) (fr_rf TM h0)
  refine E_al rfl L0 ?_
  refine E_il rfl L1 ?_
  refine E_call rfl (Sp_le (by omega) (sp_isNode (d := 0) hh1)) (chk77 hh1 rfl rfl (by show 0 ≤ 8; decide)) (fun h2 r2 => ?_)
  rintro ⟨e2, f2⟩
  rw [e2, f2]
  show Ends _ _ (10, lv, [.int (zb (0 < (gi (pt h0 77 0 (nJ 0)) 83 0).toInt ∧ 0 ≤ x.toInt ∧ x.toInt ≤ (gn (pt h0 77 0 (nJ 0)) 84 0 : Int)))], (pt h0 77 0 (nJ 0)), 0, 0) _
  by_cases hb3 : 0 < (gi (pt h0 77 0 (nJ 0)) 83 0).toInt ∧ 0 ≤ x.toInt ∧ x.toInt ≤ (gn (pt h0 77 0 (nJ 0)) 84 0 : Int)
  · refine E_ifT rfl (by rw [zb_T hb3]; rfl) ?_
    have hP8 : gn (pt h0 77 0 (nJ 0)) 84 0 ≤ 8 := gn_hi hh1 rfl (by decide)
    obtain ⟨k, hk, rfl⟩ := nJ_of2 (n := gn (pt h0 77 0 (nJ 0)) 84 0) hb3.2.1 hb3.2.2
    refine E_al rfl L0 ?_
    refine E_call rfl (Sp_le (by omega) (sp_lays (d := 0) hh1 (RI_fr hR rfl fr1))) (chk77 hh1 rfl rfl (by show 0 ≤ 8; decide)) (fun h4 r4 => ?_)
    rintro ⟨e4, hh4, fq4, wq4⟩
    rw [e4]
    have fr4 : fr_g TM h0 h4 := fr_trans fr1 (fr_wk rfl fq4)
    show Ends _ _ (20, lv, [], h4, 0, 0) _
    refine E_al rfl L0 ?_
    refine E_call rfl (Sp_le (by omega) (sp_isLawful (d := 0) hh4)) (chk77 hh4 rfl rfl (by show 0 ≤ 8; decide)) (fun h5 r5 => ?_)
    rintro ⟨e5, f5⟩
    rw [e5]
    rcases f5 with f5 | ⟨f5, lw5⟩
    · rw [f5]
      show Ends _ _ (24, lv, [.int (nJ 0)], h4, 0, 0) _
      refine E_ifF rfl (by decide) ?_
      refine E_c rfl ?_
      exact E_rti rfl ⟨hh4, fr4, _, rfl⟩
    · rw [f5]
      show Ends _ _ (24, lv, [.int (nJ 1)], h4, 0, 0) _
      refine E_ifT rfl (by decide) ?_
      refine E_al rfl L0 ?_
      refine E_call rfl (Sp_le (by omega) (sp_laysTree (d := 0) hh4 lw5 wq4)) (chk77 hh4 rfl rfl (by show 0 ≤ 8; decide)) (fun h6 r6 => ?_)
      rintro ⟨e6, hh6, fq6, dq6⟩
      rw [e6]
      have fr6 : fr_g TM h0 h6 := fr_trans fr4 (fr_wk rfl fq6)
      have pe6 : gn h6 84 0 = gn h4 84 3 := by rw [fr_gn fq6 (rg_no rfl _)]; exact lw5.1.symm
      show Ends _ _ (33, lv, [], h6, 0, 0) _
      refine E_al rfl L0 ?_
      refine E_il rfl L1 ?_
      refine E_al rfl L0 ?_
      refine E_call rfl (sp_places hh6) (chk77 hh6 rfl rfl (by show 2 ≤ 8; decide)) (fun h7 r7 => ?_)
      rintro ⟨e7, f7, c7⟩
      rw [e7, f7]
      show Ends _ _ (39, lv, [.int (nJ (gn h6 84 0)), .int (nJ k), .ref 77], h6, 0, 0) _
      refine E_call rfl (Sp_le (by omega) (Sp_sum (as := [.ref 77, .int (nJ k), .int (nJ ((gn h6 84 0)))]) q295 hh6 ⟨rfl, nJ_in (by omega) (by omega), nJ_in (by omega) (by omega), trivial⟩ (fun _ hq => absurd hq List.not_mem_nil) (fun _ hq => absurd hq List.not_mem_nil))) (chk77 hh6 rfl rfl (by show 0 ≤ 8; decide)) (fun h8 r8 => ?_)
      rintro ⟨hh8, fq8, C8, hC8, -, -, -, rv8⟩
      obtain ⟨x8, f8⟩ := rv_int295 hC8 rv8
      rw [f8]
      have fr8 : fr_g TM h0 h8 := fr_trans fr6 (fr_wk rfl fq8)
      have pe8 : gn h8 84 0 = gn h6 84 0 := fr_gn fq8 rfl
      show Ends _ _ (42, lv, [.int x8], h8, 0, 0) _
      exact E_rti rfl ⟨hh8, fr8, _, rfl⟩
  · refine E_ifF rfl (by rw [zb_F hb3]; rfl) ?_
    refine E_c rfl ?_
    exact E_rti rfl ⟨hh1, fr1, _, rfl⟩
end
