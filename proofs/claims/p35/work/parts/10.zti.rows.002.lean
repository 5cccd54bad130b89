section
theorem sp_clears {h0 : pm_H} {d : Nat} (hh0 : HH h0) : Sp (d + 2) 227 h0 [.ref 77] (fun h' r => r = none ∧ HH h' ∧ fr_g ZM h0 h' ∧ gi h' 83 4 = nJ 0 ∧ ∀ i, i < 6 → gn h' 84 (24 + i) = 0) := by
  refine Sp_of aiX9_clears rfl rfl rfl ?_
  refine E_al rfl (show pm_get (lv_args 0 [.ref 77]) 0 = _ from rfl) ?_
  refine E_gr rfl hh0 (q := 83) rfl ?_
  refine E_ci 4 rfl ci4 ?_
  refine E_ci 0 rfl ci0 ?_
  refine E_ias rfl hh0 rfl (by omega) (by decide) ?_
  have hh1 : HH (pt h0 83 4 (nJ 0)) := HH_ptn hh0 (bd_u rfl (by omega)) (by omega) (by omega) (by omega)
  have fr1 : fr_g ZM h0 (pt h0 83 4 (nJ 0)) := fr_ptr (l := 4) (u := 4) rfl (by omega) (by omega) (fr_rf ZM h0)
  refine E_ci 0 rfl ci0 ?_
  refine E_is rfl (fun lv2 L2_1 kp2 => ?_)
  have L2_0 := kp2 0 _ (nbz rfl) rfl (show pm_get (lv_args 0 [.ref 77]) 0 = _ from rfl)
  exact cl_loop 6 (k := 0) lv2 (by omega) hh1 fr1 (gi_pt hh0 (bd_u rfl (by omega)) (ai_lo _) (ai_hi _)) (fun i hi => absurd hi (Nat.not_lt_zero _)) L2_0 L2_1
theorem sp_isGood {h : pm_H} {d : Nat} (hh : HH h) : Sp (d + 1) 269 h [.ref 77] (fun h' r => h' = h ∧ (¬ gn h 77 12 = 0 ∧ r = some (.int (nJ 0)) ∨ gn h 77 12 = 0 ∧ r = some (.int (nJ 1)))) := by
  refine Sp_of aiX9_isGood rfl rfl rfl ?_
  refine E_al rfl (show pm_get (lv_args 0 [.ref 77]) 0 = _ from rfl) ?_
  have b1 : gn h 77 12 ≤ 3 := gn_hi hh rfl (by decide)
  refine E_gf rfl hh rfl (gi_gn hh rfl (by decide)) ?_
  by_cases hb2 : ¬ (gn h 77 12) = 0
  · refine E_ifT rfl (decide_eq_true (fun q => hb2 ((nJ_eq0 (by omega)).mp q))) ?_
    refine E_ci 0 rfl ci0 ?_
    exact E_rtz rfl (.inl rfl) ⟨rfl, .inl ⟨hb2, rfl⟩⟩
  · refine E_ifF rfl (decide_eq_false (fun q => hb2 (fun z => q ((nJ_eq0 (by omega)).mpr z)))) ?_
    refine E_ci 1 rfl ci1 ?_
    refine E_goto rfl ?_
    exact E_rtz rfl (.inr rfl) ⟨rfl, .inr ⟨Classical.not_not.mp hb2, rfl⟩⟩
theorem sp_over6 {h0 : pm_H} {d : Nat} (hh0 : HH h0) : Sp (d + 1) 275 h0 [.ref 77] (fun h' r => gn h' 77 6 = 0) := by
  refine Sp_of aiX9_isOver rfl rfl rfl ?_
  refine E_al rfl (show pm_get (lv_args 0 [.ref 77]) 0 = _ from rfl) ?_
  refine E_ci 0 rfl ci0 ?_
  refine E_pf rfl hh0 rfl ?_
  have hh1 : HH (pt h0 77 6 (nJ 0)) := HH_ptn hh0 rfl (by omega) (by omega) (by omega)
  have t1_0 : gn (pt h0 77 6 (nJ 0)) 77 6 = 0 := gn_ptn hh0 rfl (by omega) (by omega) (by omega)
  generalize hz1 : (pt h0 77 6 (nJ 0)) = g1 at hh1 t1_0 ⊢
  refine E_al rfl (show pm_get (lv_args 0 [.ref 77]) 0 = _ from rfl) ?_
  refine E_al rfl (show pm_get (lv_args 0 [.ref 77]) 0 = _ from rfl) ?_
  have b2 : gn g1 77 12 ≤ 3 := gn_hi hh1 rfl (by decide)
  refine E_gf rfl hh1 rfl (gi_gn hh1 rfl (by decide)) ?_
  refine E_pf rfl hh1 rfl ?_
  have hh3 : HH (pt g1 77 14 (nJ ((gn g1 77 12)))) := HH_ptn hh1 rfl (by omega) (by omega) (by omega)
  have t3_0 : gn (pt g1 77 14 (nJ ((gn g1 77 12)))) 77 6 = gn g1 77 6 := gn_ne (by first | exact gxx rfl | omega)
  generalize hz3 : (pt g1 77 14 (nJ ((gn g1 77 12)))) = g3 at hh3 t3_0 ⊢
  refine E_al rfl (show pm_get (lv_args 0 [.ref 77]) 0 = _ from rfl) ?_
  refine E_al rfl (show pm_get (lv_args 0 [.ref 77]) 0 = _ from rfl) ?_
  have b4 : gn g3 77 12 ≤ 3 := gn_hi hh3 rfl (by decide)
  refine E_gf rfl hh3 rfl (gi_gn hh3 rfl (by decide)) ?_
  by_cases hb5 : ¬ (gn g3 77 12) = 0
  · refine E_ifT rfl (decide_eq_true (fun q => hb5 ((nJ_eq0 (by omega)).mp q))) ?_
    refine E_al rfl (show pm_get (lv_args 0 [.ref 77]) 0 = _ from rfl) ?_
    refine E_gf rfl hh3 rfl (rfl) ?_
    refine E_pf rfl hh3 rfl ?_
    have hh6 : HH (pt g3 77 15 (gi g3 77 13)) := HH_pt hh3 rfl (ld_gi hh3 (a := 77) (k := 13) rfl).2.1 (ld_gi hh3 (a := 77) (k := 13) rfl).2.2
    have t6_0 : gn (pt g3 77 15 (gi g3 77 13)) 77 6 = gn g3 77 6 := gn_ne (by first | exact gxx rfl | omega)
    generalize hz6 : (pt g3 77 15 (gi g3 77 13)) = g6 at hh6 t6_0 ⊢
    exact E_ret rfl (by omega)
  · refine E_ifF rfl (decide_eq_false (fun q => hb5 (fun z => q ((nJ_eq0 (by omega)).mpr z)))) ?_
    refine E_c rfl ?_
    refine E_goto rfl ?_
    refine E_pf rfl hh3 rfl ?_
    have hh7 : HH (pt g3 77 15 (-1)) := HH_pt hh3 rfl (by decide) (by decide)
    have t7_0 : gn (pt g3 77 15 (-1)) 77 6 = gn g3 77 6 := gn_ne (by first | exact gxx rfl | omega)
    generalize hz7 : (pt g3 77 15 (-1)) = g7 at hh7 t7_0 ⊢
    exact E_ret rfl (by omega)
noncomputable def VMS : List Rng := (77, 6, 15) :: VM
noncomputable def VQS (h0 h' : pm_H) (r : Option Value) : Prop := HH h' ∧ fr_g VMS h0 h' ∧ RV h' ∧ gn h' 77 6 = 0 ∧ ∃ x : Int32, r = some (.int x)
noncomputable def STM : List Rng := [(77, 0, 0), (77, 6, 6), (77, 7, 15), (83, 4, 4), (84, 24, 29), (85, 64, 79), (86, 64, 79), (101, 0, 9)]
theorem RV_st {h0 h : pm_H} (hh0 : HH h0) (hf : fr_g STM h0 h) (V : RV h0) : RV h := RV_hi hh0 (fun k hk => fr_gn hf (rg_dis_in (l := 0) (u := 23) rfl (Nat.zero_le _) (by omega))) (fun k hk => fr_gn hf (rg_dis_in (l := 0) (u := 63) rfl (Nat.zero_le _) (by omega))) (fun k => fr_gn hf (rg_no rfl _)) V
theorem RI_4 {h : pm_H} (W : W4 h) : RI 4 h := by
  obtain ⟨w1, w2, w3, w4⟩ := W
  refine ⟨w1, w2, fun k hk => ?_⟩
  have hk : k < gn h 84 29 := hk
  omega
theorem JN_zero {h : pm_H} (h1 : gn h 84 28 = 0) : JN h := by
  unfold JN
  rw [h1]
  exact ⟨by omega, fun i hi => absurd hi (Nat.not_lt_zero _), rfl⟩
theorem st_end {h0 h : pm_H} {d : Nat} (hh0 : HH h0) (hV : RV h0) (lv : List (Nat × Value)) (hh : HH h) (hfr : fr_g STM h0 h) (hW : W4 h) (L0 : pm_get lv 0 = some (.ref 77)) : Ends (pm_at tX9_street) (pm_Rt pm_P (d + 39)) (118, lv, [], h, 0, 0) (VQS h0) := by
  refine E_al rfl L0 ?_
  refine E_call rfl (Sp_le (by first | exact Nat.add_le_add_left (Nat.le_of_ble_eq_true rfl) _ | exact Nat.le_of_ble_eq_true rfl | omega) (Sp_and (sp_isOver (d := 0) hh) (sp_over6 (d := 0) hh))) (chk77 hh rfl rfl (by show 0 ≤ 8; decide)) (fun h1 r1 => ?_)
  rintro ⟨⟨e1, hh1, fq1⟩, n61⟩
  rw [e1]
  have fr1 : fr_g STM h0 h1 := fr_trans hfr (fr_wk rfl fq1)
  have wy1 : W4 h1 := W4_fr rfl fq1 hW
  show Ends _ _ (122, lv, [], h1, 0, 0) _
  refine E_al rfl L0 ?_
  have b2 : gn h1 77 12 ≤ 3 := gn_hi hh1 rfl (by decide)
  refine E_gf rfl hh1 rfl (gi_gn hh1 rfl (by decide)) ?_
  by_cases hb3 : (gn h1 77 12) = 0
  · refine E_ifT rfl (decide_eq_true ((nJ_eq0 (by omega)).mpr hb3)) ?_
    refine E_al rfl L0 ?_
    refine E_ci 4 rfl ci4 ?_
    refine E_ci 0 rfl ci0 ?_
    refine E_call rfl (Sp_le (by first | exact Nat.add_le_add_left (Nat.le_of_ble_eq_true rfl) _ | exact Nat.le_of_ble_eq_true rfl | omega) (sp_copyStreet (d := 0) hh1 (by omega) (by omega) (by omega))) (chk77 hh1 rfl rfl (by show 0 ≤ 8; decide)) (fun h4 r4 => ?_)
    rintro ⟨e4, hh4, fq4, ka4, kb4, kc4, kd4⟩
    rw [e4]
    have V1 := RV_st hh0 fr1 hV
    have V4 : RV h4 := ⟨fun r hr => if e : r = 0 then (by rw [e]; exact ka4 (RI_4 wy1)) else kc4 r (by omega) e (V1.1 r hr), fun r hr => if e : r = 0 then (by rw [e]; exact kb4 (V1.2 4 (by omega))) else kd4 r (by omega) e (V1.2 r hr)⟩
    have fw4 : fr_g VMS h0 h4 := fr_trans (fr_wk rfl fr1) (fr_wk rfl fq4)
    have m64 : gn h4 77 6 = 0 := (fr_gn fq4 (rg_no rfl _)).trans n61
    show Ends _ _ (138, lv, [], h4, 0, 0) _
    refine E_al rfl L0 ?_
    refine E_gr rfl hh4 (q := 83) rfl ?_
    refine E_ci 0 rfl ci0 ?_
    refine E_ial rfl hh4 rfl (by omega) (by decide) (show gi h4 83 0 = (gi h4 83 0) from rfl) ?_
    exact E_rti rfl ⟨hh4, fw4, V4, m64, _, rfl⟩
  · refine E_ifF rfl (decide_eq_false (fun q => hb3 ((nJ_eq0 (by omega)).mp q))) ?_
    refine E_c rfl ?_
    exact E_rti rfl ⟨hh1, fr_wk rfl fr1, RV_st hh0 fr1 hV, n61, _, rfl⟩
theorem st_loop {h0 : pm_H} {d : Nat} (hh0 : HH h0) (hV : RV h0) (u : Nat) : ∀ {h : pm_H} {L : Nat} (lv : List (Nat × Value)), HH h → gn h 77 9 ≤ gn h 77 7 → gn h 77 7 ≤ gn h 77 6 → (gn h 77 8 = 0 ∨ gn h 77 9 < gn h 77 7) → fr_g STM h0 h → W4 h → gi h 83 4 = nJ L → L ≤ 501 → (gn h 77 12 = 0 → L ≤ gn h 77 9) → (L = 0 → gn h 84 27 = 0) → (gn h 77 12 = 0 → 501 ≤ u + gn h 77 9) → pm_get lv 0 = some (.ref 77) → Ends (pm_at tX9_street) (pm_Rt pm_P (d + 39)) (13, lv, [], h, 0, 0) (VQS h0) := by
  induction u with
  | zero =>
    intro h L lv hh hr1 hr2 hr3 hfr hW hl hL1 hL2 hcar hu L0
    have h5 := b500 hh
    refine E_al rfl L0 ?_
    refine E_call rfl (Sp_le (by first | exact Nat.add_le_add_left (Nat.le_of_ble_eq_true rfl) _ | exact Nat.le_of_ble_eq_true rfl | omega) (sp_isGood (d := 0) hh)) (chk77 hh rfl rfl (by show 0 ≤ 8; decide)) (fun h1 r1 => ?_)
    rintro ⟨e1, f1⟩
    rw [e1]
    rcases f1 with ⟨gd1, f1⟩ | ⟨gd1, f1⟩
    · rw [f1]
      show Ends _ _ (17, lv, [.int (nJ 0)], h, 0, 0) _
      refine E_ifT rfl (by decide) ?_
      exact st_end hh0 hV lv hh hfr hW L0
    · rw [f1]
      show Ends _ _ (17, lv, [.int (nJ 1)], h, 0, 0) _
      refine E_ifF rfl (by decide) ?_
      refine E_al rfl L0 ?_
      have b2 : gn h 77 8 ≤ 4 := gn_hi hh rfl (by decide)
      refine E_gf rfl hh rfl (gi_gn hh rfl (by decide)) ?_
      by_cases hb3 : (gn h 77 8) = 0
      · refine E_ifT rfl (decide_eq_true ((nJ_eq0 (by omega)).mpr hb3)) ?_
        exact st_end hh0 hV lv hh hfr hW L0
      · refine E_ifF rfl (decide_eq_false (fun q => hb3 ((nJ_eq0 (by omega)).mp q))) ?_
        exfalso; omega
  | succ u ih =>
    intro h L lv hh hr1 hr2 hr3 hfr hW hl hL1 hL2 hcar hu L0
    have h5 := b500 hh
    refine E_al rfl L0 ?_
    refine E_call rfl (Sp_le (by first | exact Nat.add_le_add_left (Nat.le_of_ble_eq_true rfl) _ | exact Nat.le_of_ble_eq_true rfl | omega) (sp_isGood (d := 0) hh)) (chk77 hh rfl rfl (by show 0 ≤ 8; decide)) (fun h1 r1 => ?_)
    rintro ⟨e1, f1⟩
    rw [e1]
    rcases f1 with ⟨gd1, f1⟩ | ⟨gd1, f1⟩
    · rw [f1]
      show Ends _ _ (17, lv, [.int (nJ 0)], h, 0, 0) _
      refine E_ifT rfl (by decide) ?_
      exact st_end hh0 hV lv hh hfr hW L0
    · rw [f1]
      show Ends _ _ (17, lv, [.int (nJ 1)], h, 0, 0) _
      refine E_ifF rfl (by decide) ?_
      refine E_al rfl L0 ?_
      have b2 : gn h 77 8 ≤ 4 := gn_hi hh rfl (by decide)
      refine E_gf rfl hh rfl (gi_gn hh rfl (by decide)) ?_
      by_cases hb3 : (gn h 77 8) = 0
      · refine E_ifT rfl (decide_eq_true ((nJ_eq0 (by omega)).mpr hb3)) ?_
        exact st_end hh0 hV lv hh hfr hW L0
      · refine E_ifF rfl (decide_eq_false (fun q => hb3 ((nJ_eq0 (by omega)).mp q))) ?_
        refine E_al rfl L0 ?_
        refine E_gr rfl hh (q := 83) rfl ?_
        refine E_ci 4 rfl ci4 ?_
        refine E_ial rfl hh rfl (by omega) (by decide) (show gi h 83 4 = nJ L from hl) ?_
        by_cases hb4 : ¬ L = 0
        · refine E_ifT rfl (decide_eq_true (fun q => hb4 ((nJ_eq0 (by omega)).mp q))) ?_
          refine E_al rfl L0 ?_
          refine E_call rfl (Sp_le (by first | exact Nat.add_le_add_left (Nat.le_of_ble_eq_true rfl) _ | exact Nat.le_of_ble_eq_true rfl | omega) (sp_lineHere (d := 0) hh (by omega) (by omega) (by omega) hW)) (chk77 hh rfl rfl (by show 0 ≤ 8; decide)) (fun h5 r5 => ?_)
          rintro ⟨e5, ⟨hh5, ra5, rb5, rc5⟩, fq5, mo5, wy5⟩
          rw [e5]
          have fr5 : fr_g STM h0 h5 := fr_trans hfr (fr_wk rfl fq5)
          have l5 : gi h5 83 4 = nJ L := by rw [fr_gi fq5 (rg_no rfl _)]; exact hl
          show Ends _ _ (94, lv, [], h5, 0, 0) _
          refine E_al rfl L0 ?_
          refine E_call rfl (Sp_le (by first | exact Nat.add_le_add_left (Nat.le_of_ble_eq_true rfl) _ | exact Nat.le_of_ble_eq_true rfl | omega) (sp_isGood (d := 0) hh5)) (chk77 hh5 rfl rfl (by show 0 ≤ 8; decide)) (fun h6 r6 => ?_)
          rintro ⟨e6, f6⟩
          rw [e6]
          rcases f6 with ⟨gd6, f6⟩ | ⟨gd6, f6⟩
          · rw [f6]
            show Ends _ _ (98, lv, [.int (nJ 0)], h5, 0, 0) _
            refine E_ifT rfl (by decide) ?_
            refine E_al rfl L0 ?_
            refine E_gr rfl hh5 (q := 83) rfl ?_
            refine E_ci 4 rfl ci4 ?_
            refine E_dup2 rfl rfl rfl ?_
            refine E_ial rfl hh5 rfl (by omega) (by decide) (show gi h5 83 4 = nJ L from l5) ?_
            refine E_ci 1 rfl ci1 ?_
            refine E_bin rfl (nJ_add _ _) ?_
            refine E_ias rfl hh5 rfl (by omega) (by decide) ?_
            have hh7 : HH (pt h5 83 4 (nJ ((L + 1)))) := HH_ptn hh5 (bd_u rfl (by omega)) (by omega) (by omega) (by omega)
            have fr7 : fr_g STM h0 (pt h5 83 4 (nJ ((L + 1)))) := fr_ptr (l := 4) (u := 4) rfl (by omega) (by omega) fr5
            have t7_0 : gn (pt h5 83 4 (nJ ((L + 1)))) 77 6 = gn h5 77 6 := gn_ne (by first | exact gxx rfl | omega)
            have t7_1 : gn (pt h5 83 4 (nJ ((L + 1)))) 77 7 = gn h5 77 7 := gn_ne (by first | exact gxx rfl | omega)
            have t7_2 : gn (pt h5 83 4 (nJ ((L + 1)))) 77 8 = gn h5 77 8 := gn_ne (by first | exact gxx rfl | omega)
            have t7_3 : gn (pt h5 83 4 (nJ ((L + 1)))) 77 9 = gn h5 77 9 := gn_ne (by first | exact gxx rfl | omega)
            have t7_4 : gn (pt h5 83 4 (nJ ((L + 1)))) 77 12 = gn h5 77 12 := gn_ne (by first | exact gxx rfl | omega)
            have t7_5 : gn (pt h5 83 4 (nJ ((L + 1)))) 84 24 = gn h5 84 24 := gn_ne (by first | exact gxx rfl | omega)
            have t7_6 : gn (pt h5 83 4 (nJ ((L + 1)))) 84 27 = gn h5 84 27 := gn_ne (by first | exact gxx rfl | omega)
            have t7_7 : gn (pt h5 83 4 (nJ ((L + 1)))) 84 28 = gn h5 84 28 := gn_ne (by first | exact gxx rfl | omega)
            have t7_8 : gn (pt h5 83 4 (nJ ((L + 1)))) 84 29 = gn h5 84 29 := gn_ne (by first | exact gxx rfl | omega)
            generalize hz7 : (pt h5 83 4 (nJ ((L + 1)))) = g7 at hh7 fr7 t7_0 t7_1 t7_2 t7_3 t7_4 t7_5 t7_6 t7_7 t7_8 ⊢
            refine E_goto rfl ?_
            exact ih (L := L + 1) lv hh7 (by omega) (by omega) (by omega) fr7 (W4_eq (fun k => by rw [← hz7]; exact gn_ne (by first | exact gxx rfl | omega)) (fun k => by rw [← hz7]; exact gn_ne (by first | exact gxx rfl | omega)) (fun k => by rw [← hz7]; exact gn_ne (by first | exact gxx rfl | omega)) wy5) (by rw [← hz7]; exact gi_pt hh5 (bd_u rfl (by omega)) (ai_lo _) (ai_hi _)) (by omega) (fun q => by omega) (fun q => by omega) (fun q => by omega) L0
          · rw [f6]
            show Ends _ _ (98, lv, [.int (nJ 1)], h5, 0, 0) _
            refine E_ifF rfl (by decide) ?_
            refine E_al rfl L0 ?_
            refine E_call rfl (Sp_le (by first | exact Nat.add_le_add_left (Nat.le_of_ble_eq_true rfl) _ | exact Nat.le_of_ble_eq_true rfl | omega) (sp_closes (d := 0) hh5 (by omega) (by omega) (by omega))) (chk77 hh5 rfl rfl (by show 0 ≤ 8; decide)) (fun h8 r8 => ?_)
            rintro ⟨e8, ⟨hh8, ra8, rb8, rc8⟩, fq8, mo8, cl8⟩
            rw [e8]
            have fr8 : fr_g STM h0 h8 := fr_trans fr5 (fr_wk rfl fq8)
            have wy8 : W4 h8 := W4_fr rfl fq8 wy5
            have l8 : gi h8 83 4 = nJ L := by rw [fr_gi fq8 (rg_no rfl _)]; exact l5
            show Ends _ _ (105, lv, [], h8, 0, 0) _
            refine E_al rfl L0 ?_
            refine E_gr rfl hh8 (q := 83) rfl ?_
            refine E_ci 4 rfl ci4 ?_
            refine E_dup2 rfl rfl rfl ?_
            refine E_ial rfl hh8 rfl (by omega) (by decide) (show gi h8 83 4 = nJ L from l8) ?_
            refine E_ci 1 rfl ci1 ?_
            refine E_bin rfl (nJ_add _ _) ?_
            refine E_ias rfl hh8 rfl (by omega) (by decide) ?_
            have hh9 : HH (pt h8 83 4 (nJ ((L + 1)))) := HH_ptn hh8 (bd_u rfl (by omega)) (by omega) (by omega) (by omega)
            have fr9 : fr_g STM h0 (pt h8 83 4 (nJ ((L + 1)))) := fr_ptr (l := 4) (u := 4) rfl (by omega) (by omega) fr8
            have t9_0 : gn (pt h8 83 4 (nJ ((L + 1)))) 77 6 = gn h8 77 6 := gn_ne (by first | exact gxx rfl | omega)
            have t9_1 : gn (pt h8 83 4 (nJ ((L + 1)))) 77 7 = gn h8 77 7 := gn_ne (by first | exact gxx rfl | omega)
            have t9_2 : gn (pt h8 83 4 (nJ ((L + 1)))) 77 8 = gn h8 77 8 := gn_ne (by first | exact gxx rfl | omega)
            have t9_3 : gn (pt h8 83 4 (nJ ((L + 1)))) 77 9 = gn h8 77 9 := gn_ne (by first | exact gxx rfl | omega)
            have t9_4 : gn (pt h8 83 4 (nJ ((L + 1)))) 77 12 = gn h8 77 12 := gn_ne (by first | exact gxx rfl | omega)
            have t9_5 : gn (pt h8 83 4 (nJ ((L + 1)))) 84 24 = gn h8 84 24 := gn_ne (by first | exact gxx rfl | omega)
            have t9_6 : gn (pt h8 83 4 (nJ ((L + 1)))) 84 27 = gn h8 84 27 := gn_ne (by first | exact gxx rfl | omega)
            have t9_7 : gn (pt h8 83 4 (nJ ((L + 1)))) 84 28 = gn h8 84 28 := gn_ne (by first | exact gxx rfl | omega)
            have t9_8 : gn (pt h8 83 4 (nJ ((L + 1)))) 84 29 = gn h8 84 29 := gn_ne (by first | exact gxx rfl | omega)
            generalize hz9 : (pt h8 83 4 (nJ ((L + 1)))) = g9 at hh9 fr9 t9_0 t9_1 t9_2 t9_3 t9_4 t9_5 t9_6 t9_7 t9_8 ⊢
            refine E_goto rfl ?_
            exact ih (L := L + 1) lv hh9 (by omega) (by omega) (by omega) fr9 (W4_eq (fun k => by rw [← hz9]; exact gn_ne (by first | exact gxx rfl | omega)) (fun k => by rw [← hz9]; exact gn_ne (by first | exact gxx rfl | omega)) (fun k => by rw [← hz9]; exact gn_ne (by first | exact gxx rfl | omega)) wy8) (by rw [← hz9]; exact gi_pt hh8 (bd_u rfl (by omega)) (ai_lo _) (ai_hi _)) (by omega) (fun q => by omega) (fun q => by omega) (fun q => by omega) L0
        · refine E_ifF rfl (decide_eq_false (fun q => hb4 (fun z => q ((nJ_eq0 (by omega)).mpr z)))) ?_
          have hL0 : L = 0 := Classical.not_not.mp hb4
          have hcr := hcar hL0
          refine E_al rfl L0 ?_
          refine E_c rfl ?_
          refine E_call rfl (Sp_le (by first | exact Nat.add_le_add_left (Nat.le_of_ble_eq_true rfl) _ | exact Nat.le_of_ble_eq_true rfl | omega) (sp_asks (d := 0) hh (by omega) (by omega) (by omega))) (chk77 hh rfl rfl (by show 0 ≤ 8; decide)) (fun h10 r10 => ?_)
          rintro ⟨e10, ⟨hh10, ra10, rb10, rc10⟩, fq10, mo10, bd10⟩
          rw [e10]
          have fr10 : fr_g STM h0 h10 := fr_trans hfr (fr_wk rfl fq10)
          have t10_0 : gn h10 77 6 = gn h 77 6 := fr_gn fq10 rfl
          have t10_5 : gn h10 84 24 = gn h 84 24 := fr_gn fq10 rfl
          have t10_6 : gn h10 84 27 = gn h 84 27 := fr_gn fq10 rfl
          have t10_7 : gn h10 84 28 = gn h 84 28 := fr_gn fq10 rfl
          have t10_8 : gn h10 84 29 = gn h 84 29 := fr_gn fq10 rfl
          show Ends _ _ (43, lv, [], h10, 0, 0) _
          have wy10 : W4 h10 := W4_fr rfl fq10 hW
          have l10 : gi h10 83 4 = nJ L := by rw [fr_gi fq10 (rg_no rfl _)]; exact hl
          refine E_al rfl L0 ?_
          refine E_ci 0 rfl ci0 ?_
          refine E_al rfl L0 ?_
          refine E_c rfl ?_
          refine E_ci 1 rfl ci1 ?_
          refine E_ci 8 rfl ci8 ?_
          refine E_call rfl (Sp_le (by first | exact Nat.add_le_add_left (Nat.le_of_ble_eq_true rfl) _ | exact Nat.le_of_ble_eq_true rfl | omega) (sp_number_ (d := 0) hh10 (by omega) (by omega) (by omega) (by omega) (by omega))) (chk77 hh10 rfl rfl (by show 2 ≤ 8; decide)) (fun h11 r11 => ?_)
          rintro ⟨⟨hh11, ra11, rb11, rc11⟩, fq11, mo11, v11, va11, vb11, f11, vc11⟩
          rw [f11]
          have fr11 : fr_g STM h0 h11 := fr_trans fr10 (fr_wk rfl fq11)
          have t11_0 : gn h11 77 6 = gn h10 77 6 := fr_gn fq11 rfl
          have t11_5 : gn h11 84 24 = gn h10 84 24 := fr_gn fq11 rfl
          have t11_6 : gn h11 84 27 = gn h10 84 27 := fr_gn fq11 rfl
          have t11_7 : gn h11 84 28 = gn h10 84 28 := fr_gn fq11 rfl
          have t11_8 : gn h11 84 29 = gn h10 84 29 := fr_gn fq11 rfl
          have u11 : ∀ k, gn h11 85 k = gn h10 85 k := fun k => fr_gn fq11 (rg_no rfl _)
          show Ends _ _ (55, lv, [.int (nJ v11), .int (nJ 0), .ref 77], h11, 0, 0) _
          have wy11 : W4 h11 := W4_fr rfl fq11 wy10
          have l11 : gi h11 83 4 = nJ L := by rw [fr_gi fq11 (rg_no rfl _)]; exact l10
          refine E_call rfl (Sp_le (by first | exact Nat.add_le_add_left (Nat.le_of_ble_eq_true rfl) _ | exact Nat.le_of_ble_eq_true rfl | omega) (sp_tells (d := 0) hh11 (by omega))) (chk77 hh11 rfl rfl (by show 0 ≤ 8; decide)) (fun h12 r12 => ?_)
          rintro ⟨e12, f12⟩
          have hh12 : HH (pt h11 84 24 (nJ v11)) := HH_ptn hh11 rfl (by omega) (by omega) (by omega)
          have fr12 : fr_g STM h0 (pt h11 84 24 (nJ v11)) := fr_ptr (l := 24) (u := 24) rfl (by omega) (by omega) fr11
          have t12_0 : gn (pt h11 84 24 (nJ v11)) 77 6 = gn h11 77 6 := gn_ne (by first | exact gxx rfl | omega)
          have t12_1 : gn (pt h11 84 24 (nJ v11)) 77 7 = gn h11 77 7 := gn_ne (by first | exact gxx rfl | omega)
          have t12_2 : gn (pt h11 84 24 (nJ v11)) 77 8 = gn h11 77 8 := gn_ne (by first | exact gxx rfl | omega)
          have t12_3 : gn (pt h11 84 24 (nJ v11)) 77 9 = gn h11 77 9 := gn_ne (by first | exact gxx rfl | omega)
          have t12_4 : gn (pt h11 84 24 (nJ v11)) 77 12 = gn h11 77 12 := gn_ne (by first | exact gxx rfl | omega)
          have t12_5 : gn (pt h11 84 24 (nJ v11)) 84 24 = v11 := gn_ptn hh11 rfl (by omega) (by omega) (by omega)
          have t12_6 : gn (pt h11 84 24 (nJ v11)) 84 27 = gn h11 84 27 := gn_ne (by first | exact gxx rfl | omega)
          have t12_7 : gn (pt h11 84 24 (nJ v11)) 84 28 = gn h11 84 28 := gn_ne (by first | exact gxx rfl | omega)
          have t12_8 : gn (pt h11 84 24 (nJ v11)) 84 29 = gn h11 84 29 := gn_ne (by first | exact gxx rfl | omega)
          have u12 : ∀ k, gn (pt h11 84 24 (nJ v11)) 85 k = gn h11 85 k := fun k => gn_ne (by first | exact gxx rfl | omega)
          have y12 : ∀ k, gn (pt h11 84 24 (nJ v11)) 86 k = gn h11 86 k := fun k => gn_ne (by first | exact gxx rfl | omega)
          rw [e12, f12]
          show Ends _ _ (58, lv, [], (pt h11 84 24 (nJ v11)), 0, 0) _
          generalize hz12 : (pt h11 84 24 (nJ v11)) = g12 at hh12 fr12 t12_0 t12_1 t12_2 t12_3 t12_4 t12_5 t12_6 t12_7 t12_8 u12 y12 ⊢
          have wy12 : W4 g12 := by
            have wo := wy11
            refine ⟨by omega, fun c hc => by omega, JN_eq (by omega) y12 wo.2.2.1, by have := wo.2.2.2; omega⟩
          have l12 : gi g12 83 4 = nJ L := by rw [← hz12, gi_ne (by first | exact gxx rfl | omega)]; exact l11
          refine E_al rfl L0 ?_
          refine E_ci 1 rfl ci1 ?_
          refine E_al rfl L0 ?_
          refine E_c rfl ?_
          refine E_ci 0 rfl ci0 ?_
          refine E_ci 3 rfl ci3 ?_
          refine E_call rfl (Sp_le (by first | exact Nat.add_le_add_left (Nat.le_of_ble_eq_true rfl) _ | exact Nat.le_of_ble_eq_true rfl | omega) (sp_number_ (d := 0) hh12 (by omega) (by omega) (by omega) (by omega) (by omega))) (chk77 hh12 rfl rfl (by show 2 ≤ 8; decide)) (fun h13 r13 => ?_)
          rintro ⟨⟨hh13, ra13, rb13, rc13⟩, fq13, mo13, v13, va13, vb13, f13, vc13⟩
          rw [f13]
          have fr13 : fr_g STM h0 h13 := fr_trans fr12 (fr_wk rfl fq13)
          have t13_0 : gn h13 77 6 = gn g12 77 6 := fr_gn fq13 rfl
          have t13_5 : gn h13 84 24 = gn g12 84 24 := fr_gn fq13 rfl
          have t13_6 : gn h13 84 27 = gn g12 84 27 := fr_gn fq13 rfl
          have t13_7 : gn h13 84 28 = gn g12 84 28 := fr_gn fq13 rfl
          have t13_8 : gn h13 84 29 = gn g12 84 29 := fr_gn fq13 rfl
          have u13 : ∀ k, gn h13 85 k = gn g12 85 k := fun k => fr_gn fq13 (rg_no rfl _)
          show Ends _ _ (69, lv, [.int (nJ v13), .int (nJ 1), .ref 77], h13, 0, 0) _
          have wy13 : W4 h13 := W4_fr rfl fq13 wy12
          have l13 : gi h13 83 4 = nJ L := by rw [fr_gi fq13 (rg_no rfl _)]; exact l12
          refine E_call rfl (Sp_le (by first | exact Nat.add_le_add_left (Nat.le_of_ble_eq_true rfl) _ | exact Nat.le_of_ble_eq_true rfl | omega) (sp_tells (d := 0) hh13 (by omega))) (chk77 hh13 rfl rfl (by show 0 ≤ 8; decide)) (fun h14 r14 => ?_)
          rintro ⟨e14, f14⟩
          have hh14 : HH (pt h13 84 25 (nJ v13)) := HH_ptn hh13 rfl (by omega) (by omega) (by omega)
          have fr14 : fr_g STM h0 (pt h13 84 25 (nJ v13)) := fr_ptr (l := 25) (u := 25) rfl (by omega) (by omega) fr13
          have t14_0 : gn (pt h13 84 25 (nJ v13)) 77 6 = gn h13 77 6 := gn_ne (by first | exact gxx rfl | omega)
          have t14_1 : gn (pt h13 84 25 (nJ v13)) 77 7 = gn h13 77 7 := gn_ne (by first | exact gxx rfl | omega)
          have t14_2 : gn (pt h13 84 25 (nJ v13)) 77 8 = gn h13 77 8 := gn_ne (by first | exact gxx rfl | omega)
          have t14_3 : gn (pt h13 84 25 (nJ v13)) 77 9 = gn h13 77 9 := gn_ne (by first | exact gxx rfl | omega)
          have t14_4 : gn (pt h13 84 25 (nJ v13)) 77 12 = gn h13 77 12 := gn_ne (by first | exact gxx rfl | omega)
          have t14_5 : gn (pt h13 84 25 (nJ v13)) 84 24 = gn h13 84 24 := gn_ne (by first | exact gxx rfl | omega)
          have t14_6 : gn (pt h13 84 25 (nJ v13)) 84 27 = gn h13 84 27 := gn_ne (by first | exact gxx rfl | omega)
          have t14_7 : gn (pt h13 84 25 (nJ v13)) 84 28 = gn h13 84 28 := gn_ne (by first | exact gxx rfl | omega)
          have t14_8 : gn (pt h13 84 25 (nJ v13)) 84 29 = gn h13 84 29 := gn_ne (by first | exact gxx rfl | omega)
          have u14 : ∀ k, gn (pt h13 84 25 (nJ v13)) 85 k = gn h13 85 k := fun k => gn_ne (by first | exact gxx rfl | omega)
          have y14 : ∀ k, gn (pt h13 84 25 (nJ v13)) 86 k = gn h13 86 k := fun k => gn_ne (by first | exact gxx rfl | omega)
          rw [e14, f14]
          show Ends _ _ (72, lv, [], (pt h13 84 25 (nJ v13)), 0, 0) _
          generalize hz14 : (pt h13 84 25 (nJ v13)) = g14 at hh14 fr14 t14_0 t14_1 t14_2 t14_3 t14_4 t14_5 t14_6 t14_7 t14_8 u14 y14 ⊢
          have wy14 : W4 g14 := by
            have wo := wy13
            refine ⟨by omega, fun c hc => by omega, JN_eq (by omega) y14 wo.2.2.1, by have := wo.2.2.2; omega⟩
          have l14 : gi g14 83 4 = nJ L := by rw [← hz14, gi_ne (by first | exact gxx rfl | omega)]; exact l13
          refine E_al rfl L0 ?_
          refine E_ci 2 rfl ci2 ?_
          refine E_al rfl L0 ?_
          refine E_c rfl ?_
          refine E_ci 0 rfl ci0 ?_
          refine E_ci 10 rfl ci10 ?_
          refine E_call rfl (Sp_le (by first | exact Nat.add_le_add_left (Nat.le_of_ble_eq_true rfl) _ | exact Nat.le_of_ble_eq_true rfl | omega) (sp_number_ (d := 0) hh14 (by omega) (by omega) (by omega) (by omega) (by omega))) (chk77 hh14 rfl rfl (by show 2 ≤ 8; decide)) (fun h15 r15 => ?_)
          rintro ⟨⟨hh15, ra15, rb15, rc15⟩, fq15, mo15, v15, va15, vb15, f15, vc15⟩
          rw [f15]
          have fr15 : fr_g STM h0 h15 := fr_trans fr14 (fr_wk rfl fq15)
          have t15_0 : gn h15 77 6 = gn g14 77 6 := fr_gn fq15 rfl
          have t15_5 : gn h15 84 24 = gn g14 84 24 := fr_gn fq15 rfl
          have t15_6 : gn h15 84 27 = gn g14 84 27 := fr_gn fq15 rfl
          have t15_7 : gn h15 84 28 = gn g14 84 28 := fr_gn fq15 rfl
          have t15_8 : gn h15 84 29 = gn g14 84 29 := fr_gn fq15 rfl
          have u15 : ∀ k, gn h15 85 k = gn g14 85 k := fun k => fr_gn fq15 (rg_no rfl _)
          show Ends _ _ (84, lv, [.int (nJ v15), .int (nJ 2), .ref 77], h15, 0, 0) _
          have wy15 : W4 h15 := W4_fr rfl fq15 wy14
          have l15 : gi h15 83 4 = nJ L := by rw [fr_gi fq15 (rg_no rfl _)]; exact l14
          refine E_call rfl (Sp_le (by first | exact Nat.add_le_add_left (Nat.le_of_ble_eq_true rfl) _ | exact Nat.le_of_ble_eq_true rfl | omega) (sp_tells (d := 0) hh15 (by omega))) (chk77 hh15 rfl rfl (by show 0 ≤ 8; decide)) (fun h16 r16 => ?_)
          rintro ⟨e16, f16⟩
          have hh16 : HH (pt h15 84 26 (nJ v15)) := HH_ptn hh15 rfl (by omega) (by omega) (by omega)
          have fr16 : fr_g STM h0 (pt h15 84 26 (nJ v15)) := fr_ptr (l := 26) (u := 26) rfl (by omega) (by omega) fr15
          have t16_0 : gn (pt h15 84 26 (nJ v15)) 77 6 = gn h15 77 6 := gn_ne (by first | exact gxx rfl | omega)
          have t16_1 : gn (pt h15 84 26 (nJ v15)) 77 7 = gn h15 77 7 := gn_ne (by first | exact gxx rfl | omega)
          have t16_2 : gn (pt h15 84 26 (nJ v15)) 77 8 = gn h15 77 8 := gn_ne (by first | exact gxx rfl | omega)
          have t16_3 : gn (pt h15 84 26 (nJ v15)) 77 9 = gn h15 77 9 := gn_ne (by first | exact gxx rfl | omega)
          have t16_4 : gn (pt h15 84 26 (nJ v15)) 77 12 = gn h15 77 12 := gn_ne (by first | exact gxx rfl | omega)
          have t16_5 : gn (pt h15 84 26 (nJ v15)) 84 24 = gn h15 84 24 := gn_ne (by first | exact gxx rfl | omega)
          have t16_6 : gn (pt h15 84 26 (nJ v15)) 84 27 = gn h15 84 27 := gn_ne (by first | exact gxx rfl | omega)
          have t16_7 : gn (pt h15 84 26 (nJ v15)) 84 28 = gn h15 84 28 := gn_ne (by first | exact gxx rfl | omega)
          have t16_8 : gn (pt h15 84 26 (nJ v15)) 84 29 = gn h15 84 29 := gn_ne (by first | exact gxx rfl | omega)
          have u16 : ∀ k, gn (pt h15 84 26 (nJ v15)) 85 k = gn h15 85 k := fun k => gn_ne (by first | exact gxx rfl | omega)
          have y16 : ∀ k, gn (pt h15 84 26 (nJ v15)) 86 k = gn h15 86 k := fun k => gn_ne (by first | exact gxx rfl | omega)
          rw [e16, f16]
          show Ends _ _ (87, lv, [], (pt h15 84 26 (nJ v15)), 0, 0) _
          generalize hz16 : (pt h15 84 26 (nJ v15)) = g16 at hh16 fr16 t16_0 t16_1 t16_2 t16_3 t16_4 t16_5 t16_6 t16_7 t16_8 u16 y16 ⊢
          have wy16 : W4 g16 := by
            have wo := wy15
            refine ⟨by omega, fun c hc => by omega, JN_eq (by omega) y16 wo.2.2.1, by have := wo.2.2.2; omega⟩
          have l16 : gi g16 83 4 = nJ L := by rw [← hz16, gi_ne (by first | exact gxx rfl | omega)]; exact l15
          refine E_goto rfl ?_
          refine E_al rfl L0 ?_
          refine E_call rfl (Sp_le (by first | exact Nat.add_le_add_left (Nat.le_of_ble_eq_true rfl) _ | exact Nat.le_of_ble_eq_true rfl | omega) (sp_isGood (d := 0) hh16)) (chk77 hh16 rfl rfl (by show 0 ≤ 8; decide)) (fun h17 r17 => ?_)
          rintro ⟨e17, f17⟩
          rw [e17]
          rcases f17 with ⟨gd17, f17⟩ | ⟨gd17, f17⟩
          · rw [f17]
            show Ends _ _ (98, lv, [.int (nJ 0)], g16, 0, 0) _
            refine E_ifT rfl (by decide) ?_
            refine E_al rfl L0 ?_
            refine E_gr rfl hh16 (q := 83) rfl ?_
            refine E_ci 4 rfl ci4 ?_
            refine E_dup2 rfl rfl rfl ?_
            refine E_ial rfl hh16 rfl (by omega) (by decide) (show gi g16 83 4 = nJ L from l16) ?_
            refine E_ci 1 rfl ci1 ?_
            refine E_bin rfl (nJ_add _ _) ?_
            refine E_ias rfl hh16 rfl (by omega) (by decide) ?_
            have hh18 : HH (pt g16 83 4 (nJ ((L + 1)))) := HH_ptn hh16 (bd_u rfl (by omega)) (by omega) (by omega) (by omega)
            have fr18 : fr_g STM h0 (pt g16 83 4 (nJ ((L + 1)))) := fr_ptr (l := 4) (u := 4) rfl (by omega) (by omega) fr16
            have t18_0 : gn (pt g16 83 4 (nJ ((L + 1)))) 77 6 = gn g16 77 6 := gn_ne (by first | exact gxx rfl | omega)
            have t18_1 : gn (pt g16 83 4 (nJ ((L + 1)))) 77 7 = gn g16 77 7 := gn_ne (by first | exact gxx rfl | omega)
            have t18_2 : gn (pt g16 83 4 (nJ ((L + 1)))) 77 8 = gn g16 77 8 := gn_ne (by first | exact gxx rfl | omega)
            have t18_3 : gn (pt g16 83 4 (nJ ((L + 1)))) 77 9 = gn g16 77 9 := gn_ne (by first | exact gxx rfl | omega)
            have t18_4 : gn (pt g16 83 4 (nJ ((L + 1)))) 77 12 = gn g16 77 12 := gn_ne (by first | exact gxx rfl | omega)
            have t18_5 : gn (pt g16 83 4 (nJ ((L + 1)))) 84 24 = gn g16 84 24 := gn_ne (by first | exact gxx rfl | omega)
            have t18_6 : gn (pt g16 83 4 (nJ ((L + 1)))) 84 27 = gn g16 84 27 := gn_ne (by first | exact gxx rfl | omega)
            have t18_7 : gn (pt g16 83 4 (nJ ((L + 1)))) 84 28 = gn g16 84 28 := gn_ne (by first | exact gxx rfl | omega)
            have t18_8 : gn (pt g16 83 4 (nJ ((L + 1)))) 84 29 = gn g16 84 29 := gn_ne (by first | exact gxx rfl | omega)
            generalize hz18 : (pt g16 83 4 (nJ ((L + 1)))) = g18 at hh18 fr18 t18_0 t18_1 t18_2 t18_3 t18_4 t18_5 t18_6 t18_7 t18_8 ⊢
            refine E_goto rfl ?_
            exact ih (L := L + 1) lv hh18 (by omega) (by omega) (by omega) fr18 (W4_eq (fun k => by rw [← hz18]; exact gn_ne (by first | exact gxx rfl | omega)) (fun k => by rw [← hz18]; exact gn_ne (by first | exact gxx rfl | omega)) (fun k => by rw [← hz18]; exact gn_ne (by first | exact gxx rfl | omega)) wy16) (by rw [← hz18]; exact gi_pt hh16 (bd_u rfl (by omega)) (ai_lo _) (ai_hi _)) (by omega) (fun q => by omega) (fun q => by omega) (fun q => by omega) L0
          · rw [f17]
            show Ends _ _ (98, lv, [.int (nJ 1)], g16, 0, 0) _
            refine E_ifF rfl (by decide) ?_
            refine E_al rfl L0 ?_
            refine E_call rfl (Sp_le (by first | exact Nat.add_le_add_left (Nat.le_of_ble_eq_true rfl) _ | exact Nat.le_of_ble_eq_true rfl | omega) (sp_closes (d := 0) hh16 (by omega) (by omega) (by omega))) (chk77 hh16 rfl rfl (by show 0 ≤ 8; decide)) (fun h19 r19 => ?_)
            rintro ⟨e19, ⟨hh19, ra19, rb19, rc19⟩, fq19, mo19, cl19⟩
            rw [e19]
            have fr19 : fr_g STM h0 h19 := fr_trans fr16 (fr_wk rfl fq19)
            have wy19 : W4 h19 := W4_fr rfl fq19 wy16
            have l19 : gi h19 83 4 = nJ L := by rw [fr_gi fq19 (rg_no rfl _)]; exact l16
            show Ends _ _ (105, lv, [], h19, 0, 0) _
            refine E_al rfl L0 ?_
            refine E_gr rfl hh19 (q := 83) rfl ?_
            refine E_ci 4 rfl ci4 ?_
            refine E_dup2 rfl rfl rfl ?_
            refine E_ial rfl hh19 rfl (by omega) (by decide) (show gi h19 83 4 = nJ L from l19) ?_
            refine E_ci 1 rfl ci1 ?_
            refine E_bin rfl (nJ_add _ _) ?_
            refine E_ias rfl hh19 rfl (by omega) (by decide) ?_
            have hh20 : HH (pt h19 83 4 (nJ ((L + 1)))) := HH_ptn hh19 (bd_u rfl (by omega)) (by omega) (by omega) (by omega)
            have fr20 : fr_g STM h0 (pt h19 83 4 (nJ ((L + 1)))) := fr_ptr (l := 4) (u := 4) rfl (by omega) (by omega) fr19
            have t20_0 : gn (pt h19 83 4 (nJ ((L + 1)))) 77 6 = gn h19 77 6 := gn_ne (by first | exact gxx rfl | omega)
            have t20_1 : gn (pt h19 83 4 (nJ ((L + 1)))) 77 7 = gn h19 77 7 := gn_ne (by first | exact gxx rfl | omega)
            have t20_2 : gn (pt h19 83 4 (nJ ((L + 1)))) 77 8 = gn h19 77 8 := gn_ne (by first | exact gxx rfl | omega)
            have t20_3 : gn (pt h19 83 4 (nJ ((L + 1)))) 77 9 = gn h19 77 9 := gn_ne (by first | exact gxx rfl | omega)
            have t20_4 : gn (pt h19 83 4 (nJ ((L + 1)))) 77 12 = gn h19 77 12 := gn_ne (by first | exact gxx rfl | omega)
            have t20_5 : gn (pt h19 83 4 (nJ ((L + 1)))) 84 24 = gn h19 84 24 := gn_ne (by first | exact gxx rfl | omega)
            have t20_6 : gn (pt h19 83 4 (nJ ((L + 1)))) 84 27 = gn h19 84 27 := gn_ne (by first | exact gxx rfl | omega)
            have t20_7 : gn (pt h19 83 4 (nJ ((L + 1)))) 84 28 = gn h19 84 28 := gn_ne (by first | exact gxx rfl | omega)
            have t20_8 : gn (pt h19 83 4 (nJ ((L + 1)))) 84 29 = gn h19 84 29 := gn_ne (by first | exact gxx rfl | omega)
            generalize hz20 : (pt h19 83 4 (nJ ((L + 1)))) = g20 at hh20 fr20 t20_0 t20_1 t20_2 t20_3 t20_4 t20_5 t20_6 t20_7 t20_8 ⊢
            refine E_goto rfl ?_
            exact ih (L := L + 1) lv hh20 (by omega) (by omega) (by omega) fr20 (W4_eq (fun k => by rw [← hz20]; exact gn_ne (by first | exact gxx rfl | omega)) (fun k => by rw [← hz20]; exact gn_ne (by first | exact gxx rfl | omega)) (fun k => by rw [← hz20]; exact gn_ne (by first | exact gxx rfl | omega)) wy19) (by rw [← hz20]; exact gi_pt hh19 (bd_u rfl (by omega)) (ai_lo _) (ai_hi _)) (by omega) (fun q => by omega) (fun q => by omega) (fun q => by omega) L0
end
