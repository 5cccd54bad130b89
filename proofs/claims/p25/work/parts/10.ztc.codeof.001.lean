section
theorem sp_limbsOf {h : pm_H} {d node g : Nat} (hh : HH h) (hn : node ≤ 8) (hg : g < 512) : Sp (d + 2) 303 h [.ref 77, .int (nJ node), .int (nJ g)] (fun h' r => h' = h ∧ r = some (.int (nJ (limb (gn h 92) g node (gn h 84 0))))) := by
  refine Sp_of aiX9_limbsOf rfl rfl rfl ?_
  refine E_il rfl (show pm_get (lv_args 0 [.ref 77, .int (nJ node), .int (nJ g)]) 1 = _ from rfl) ?_
  by_cases hb1 : node = 0
  · refine E_ifT rfl (decide_eq_true ((nJ_eq0 (by omega)).mpr hb1)) ?_
    have hZ : ¬ (node ≠ 0 ∧ isB g (gn h 92 node) = false) := fun q => q.1 hb1
    refine E_ci 0 rfl (by decide) ?_
    refine E_is rfl (fun lv2 L2_3 kp2 => ?_)
    have L2_0 := kp2 0 _ (by decide) rfl (show pm_get (lv_args 0 [.ref 77, .int (nJ node), .int (nJ g)]) 0 = _ from rfl)
    have L2_1 := kp2 1 _ (by decide) rfl (show pm_get (lv_args 0 [.ref 77, .int (nJ node), .int (nJ g)]) 1 = _ from rfl)
    have L2_2 := kp2 2 _ (by decide) rfl (show pm_get (lv_args 0 [.ref 77, .int (nJ node), .int (nJ g)]) 2 = _ from rfl)
    refine E_ci 1 rfl (by decide) ?_
    refine E_is rfl (fun lv3 L3_4 kp3 => ?_)
    have L3_0 := kp3 0 _ (by decide) rfl L2_0
    have L3_1 := kp3 1 _ (by decide) rfl L2_1
    have L3_2 := kp3 2 _ (by decide) rfl L2_2
    have L3_3 := kp3 3 _ (by decide) rfl L2_3
    refine lb_loop hh hn hg (gn h 84 0) (k := 1) (n := 0) lv3 (by omega) (by omega) ?_ L3_0 L3_1 L3_2 L3_3 L3_4
    have h1 : lc (ind (gn h 92) g node) 1 = 0 := by show 0 + (if ind (gn h 92) g node 0 = 0 then 0 else 1) = 0; rw [ind_F (fun q => by omega), if_pos rfl]
    rw [h1, show upl (gn h 92) g node = 0 from if_neg hZ]
  · refine E_ifF rfl (decide_eq_false (fun q => hb1 ((nJ_eq0 (by omega)).mp q))) ?_
    have hX : node ≠ 0 := hb1
    refine E_il rfl (show pm_get (lv_args 0 [.ref 77, .int (nJ node), .int (nJ g)]) 2 = _ from rfl) ?_
    refine E_al rfl (show pm_get (lv_args 0 [.ref 77, .int (nJ node), .int (nJ g)]) 0 = _ from rfl) ?_
    refine E_gr rfl hh (q := 92) rfl ?_
    refine E_il rfl (show pm_get (lv_args 0 [.ref 77, .int (nJ node), .int (nJ g)]) 1 = _ from rfl) ?_
    have b4 : gn h 92 node ≤ 8 := gn_hi hh (bd_u rfl (by omega)) (by decide)
    refine E_ial rfl hh rfl (by omega) (by decide) (gi_gn hh (bd_u rfl (by omega)) (by decide)) ?_
    refine E_call rfl (sp_isBit (by omega) (by omega)) (chkS rfl (by show 0 ≤ 8; decide)) (fun h5 r5 => ?_)
    rintro ⟨e5, f5⟩
    rw [e5, f5]
    show Ends _ _ (14, (lv_args 0 [.ref 77, .int (nJ node), .int (nJ g)]), [.int (nJ (bif isB g ((gn h 92 node)) then 1 else 0))], h, 0, 0) _
    by_cases hb6 : isB g ((gn h 92 node)) = true
    · refine E_ifT rfl (by rw [hb6]; rfl) ?_
      have hZ : ¬ (node ≠ 0 ∧ isB g (gn h 92 node) = false) := fun q => by rw [q.2] at hb6; cases hb6
      refine E_ci 0 rfl (by decide) ?_
      refine E_is rfl (fun lv7 L7_3 kp7 => ?_)
      have L7_0 := kp7 0 _ (by decide) rfl (show pm_get (lv_args 0 [.ref 77, .int (nJ node), .int (nJ g)]) 0 = _ from rfl)
      have L7_1 := kp7 1 _ (by decide) rfl (show pm_get (lv_args 0 [.ref 77, .int (nJ node), .int (nJ g)]) 1 = _ from rfl)
      have L7_2 := kp7 2 _ (by decide) rfl (show pm_get (lv_args 0 [.ref 77, .int (nJ node), .int (nJ g)]) 2 = _ from rfl)
      refine E_ci 1 rfl (by decide) ?_
      refine E_is rfl (fun lv8 L8_4 kp8 => ?_)
      have L8_0 := kp8 0 _ (by decide) rfl L7_0
      have L8_1 := kp8 1 _ (by decide) rfl L7_1
      have L8_2 := kp8 2 _ (by decide) rfl L7_2
      have L8_3 := kp8 3 _ (by decide) rfl L7_3
      refine lb_loop hh hn hg (gn h 84 0) (k := 1) (n := 0) lv8 (by omega) (by omega) ?_ L8_0 L8_1 L8_2 L8_3 L8_4
      have h1 : lc (ind (gn h 92) g node) 1 = 0 := by show 0 + (if ind (gn h 92) g node 0 = 0 then 0 else 1) = 0; rw [ind_F (fun q => by omega), if_pos rfl]
      rw [h1, show upl (gn h 92) g node = 0 from if_neg hZ]
    · refine E_ifF rfl (by rw [Bool.not_eq_true] at hb6; rw [hb6]; rfl) ?_
      have hY : isB g (gn h 92 node) = false := by rw [Bool.not_eq_true] at hb6; exact hb6
      refine E_ci 1 rfl (by decide) ?_
      refine E_goto rfl ?_
      refine E_is rfl (fun lv9 L9_3 kp9 => ?_)
      have L9_0 := kp9 0 _ (by decide) rfl (show pm_get (lv_args 0 [.ref 77, .int (nJ node), .int (nJ g)]) 0 = _ from rfl)
      have L9_1 := kp9 1 _ (by decide) rfl (show pm_get (lv_args 0 [.ref 77, .int (nJ node), .int (nJ g)]) 1 = _ from rfl)
      have L9_2 := kp9 2 _ (by decide) rfl (show pm_get (lv_args 0 [.ref 77, .int (nJ node), .int (nJ g)]) 2 = _ from rfl)
      refine E_ci 1 rfl (by decide) ?_
      refine E_is rfl (fun lv10 L10_4 kp10 => ?_)
      have L10_0 := kp10 0 _ (by decide) rfl L9_0
      have L10_1 := kp10 1 _ (by decide) rfl L9_1
      have L10_2 := kp10 2 _ (by decide) rfl L9_2
      have L10_3 := kp10 3 _ (by decide) rfl L9_3
      refine lb_loop hh hn hg (gn h 84 0) (k := 1) (n := 1) lv10 (by omega) (by omega) ?_ L10_0 L10_1 L10_2 L10_3 L10_4
      have h1 : lc (ind (gn h 92) g node) 1 = 0 := by show 0 + (if ind (gn h 92) g node 0 = 0 then 0 else 1) = 0; rw [ind_F (fun q => by omega), if_pos rfl]
      rw [h1, show upl (gn h 92) g node = 1 from if_pos ⟨hX, hY⟩]
theorem oe_loop {h : pm_H} {d node g : Nat} (hh : HH h) (hn : node ≤ 8) (hg : g < 512) (hu : upl (gn h 92) g node = 0) (j : Nat) : ∀ {k : Nat} (lv : List (Nat × Value)), k + j = gn h 84 0 + 1 → 1 ≤ k → (∀ k1, k1 < k → ind (gn h 92) g node k1 = 0) → pm_get lv 0 = some (.ref 77) → pm_get lv 1 = some (.int (nJ node)) → pm_get lv 2 = some (.int (nJ g)) → pm_get lv 3 = some (.int (nJ k)) → Ends (pm_at tX9_otherEnd) (pm_Rt pm_P (d + 1)) (26, lv, [], h, 0, 0) (fun h' r => h' = h ∧ ∃ x : Int32, r = some (.int x) ∧ (limb (gn h 92) g node (gn h 84 0) ≠ 0 → ∃ v, v ≤ 8 ∧ x = nJ v)) := by
  have hP8 : gn h 84 0 ≤ 8 := gn_hi hh rfl (by decide)
  induction j with
  | zero =>
    intro k lv hj hk hz L0 L1 L2 L3
    refine E_il rfl L3 ?_
    refine E_al rfl L0 ?_
    refine E_call rfl (sp_places hh) (chk77 hh rfl rfl (by show 1 ≤ 8; decide)) (fun h1 r1 => ?_)
    rintro ⟨e1, f1, c1⟩
    rw [e1, f1]
    show Ends _ _ (31, lv, [.int (nJ (gn h 84 0)), .int (nJ k)], h, 0, 0) _
    refine E_icT rfl (decide_eq_true ((nJ_lt (by omega) (by omega)).mpr (by omega))) ?_
    refine E_c rfl ?_
    exact E_rti rfl ⟨rfl, _, rfl, fun q => absurd (show limb (gn h 92) g node (gn h 84 0) = 0 by unfold limb; rw [hu, lc_none (fun v hv => hz v (by omega))]) q⟩
  | succ j ih =>
    intro k lv hj hk hz L0 L1 L2 L3
    refine E_il rfl L3 ?_
    refine E_al rfl L0 ?_
    refine E_call rfl (sp_places hh) (chk77 hh rfl rfl (by show 1 ≤ 8; decide)) (fun h1 r1 => ?_)
    rintro ⟨e1, f1, c1⟩
    rw [e1, f1]
    show Ends _ _ (31, lv, [.int (nJ (gn h 84 0)), .int (nJ k)], h, 0, 0) _
    refine E_icF rfl (decide_eq_false (fun q => absurd ((nJ_lt (by omega) (by omega)).mp q) (by omega))) ?_
    refine E_al rfl L0 ?_
    refine E_gr rfl hh (q := 92) rfl ?_
    refine E_il rfl L3 ?_
    have b2 : gn h 92 k ≤ 8 := gn_hi hh (bd_u rfl (by omega)) (by decide)
    refine E_ial rfl hh rfl (by omega) (by decide) (gi_gn hh (bd_u rfl (by omega)) (by decide)) ?_
    refine E_il rfl L1 ?_
    by_cases hb3 : ¬ (gn h 92 k) = node
    · refine E_icT rfl (decide_eq_true (fun q => hb3 ((nJ_eq (by omega) (by omega)).mp q))) ?_
      have hZ : ¬ (1 ≤ k ∧ gn h 92 k = node ∧ isB g k = false) := fun q => hb3 q.2.1
      refine E_inc rfl L3 (nJ_inc _) (fun lv4 L4_3 kp4 => ?_)
      have L4_0 := kp4 0 _ (by decide) rfl L0
      have L4_1 := kp4 1 _ (by decide) rfl L1
      have L4_2 := kp4 2 _ (by decide) rfl L2
      refine E_goto rfl ?_
      refine ih lv4 (by omega) (by omega) (fun k1 h1 => ?_) L4_0 L4_1 L4_2 L4_3
      by_cases e : k1 = k
      · rw [e]; exact ind_F hZ
      · exact hz k1 (by omega)
    · refine E_icF rfl (decide_eq_false (fun q => hb3 (fun z => q ((nJ_eq (by omega) (by omega)).mpr z)))) ?_
      refine E_il rfl L2 ?_
      refine E_il rfl L3 ?_
      refine E_call rfl (sp_isBit (by omega) (by omega)) (chkS rfl (by show 0 ≤ 8; decide)) (fun h5 r5 => ?_)
      rintro ⟨e5, f5⟩
      rw [e5, f5]
      show Ends _ _ (49, lv, [.int (nJ (bif isB g k then 1 else 0))], h, 0, 0) _
      by_cases hb6 : isB g k = true
      · refine E_ifT rfl (by rw [hb6]; rfl) ?_
        have hZ : ¬ (1 ≤ k ∧ gn h 92 k = node ∧ isB g k = false) := fun q => by rw [q.2.2] at hb6; cases hb6
        refine E_inc rfl L3 (nJ_inc _) (fun lv7 L7_3 kp7 => ?_)
        have L7_0 := kp7 0 _ (by decide) rfl L0
        have L7_1 := kp7 1 _ (by decide) rfl L1
        have L7_2 := kp7 2 _ (by decide) rfl L2
        refine E_goto rfl ?_
        refine ih lv7 (by omega) (by omega) (fun k1 h1 => ?_) L7_0 L7_1 L7_2 L7_3
        by_cases e : k1 = k
        · rw [e]; exact ind_F hZ
        · exact hz k1 (by omega)
      · refine E_ifF rfl (by rw [Bool.not_eq_true] at hb6; rw [hb6]; rfl) ?_
        refine E_il rfl L3 ?_
        exact E_rti rfl ⟨rfl, _, rfl, fun _ => ⟨_, by omega, rfl⟩⟩
theorem sp_otherEnd {h : pm_H} {d node g : Nat} (hh : HH h) (hn : node ≤ 8) (hg : g < 512) : Sp (d + 2) 318 h [.ref 77, .int (nJ node), .int (nJ g)] (fun h' r => h' = h ∧ ∃ x : Int32, r = some (.int x) ∧ (limb (gn h 92) g node (gn h 84 0) ≠ 0 → ∃ v, v ≤ 8 ∧ x = nJ v)) := by
  refine Sp_of aiX9_otherEnd rfl rfl rfl ?_
  refine E_il rfl (show pm_get (lv_args 0 [.ref 77, .int (nJ node), .int (nJ g)]) 1 = _ from rfl) ?_
  by_cases hb1 : node = 0
  · refine E_ifT rfl (decide_eq_true ((nJ_eq0 (by omega)).mpr hb1)) ?_
    have hZ : ¬ (node ≠ 0 ∧ isB g (gn h 92 node) = false) := fun q => q.1 hb1
    refine E_ci 1 rfl (by decide) ?_
    refine E_is rfl (fun lv2 L2_3 kp2 => ?_)
    have L2_0 := kp2 0 _ (by decide) rfl (show pm_get (lv_args 0 [.ref 77, .int (nJ node), .int (nJ g)]) 0 = _ from rfl)
    have L2_1 := kp2 1 _ (by decide) rfl (show pm_get (lv_args 0 [.ref 77, .int (nJ node), .int (nJ g)]) 1 = _ from rfl)
    have L2_2 := kp2 2 _ (by decide) rfl (show pm_get (lv_args 0 [.ref 77, .int (nJ node), .int (nJ g)]) 2 = _ from rfl)
    exact oe_loop hh hn hg (if_neg hZ) (gn h 84 0) (k := 1) lv2 (by omega) (by omega) (fun k1 h1 => ind_F (fun q => by omega)) L2_0 L2_1 L2_2 L2_3
  · refine E_ifF rfl (decide_eq_false (fun q => hb1 ((nJ_eq0 (by omega)).mp q))) ?_
    have hX : node ≠ 0 := hb1
    refine E_il rfl (show pm_get (lv_args 0 [.ref 77, .int (nJ node), .int (nJ g)]) 2 = _ from rfl) ?_
    refine E_al rfl (show pm_get (lv_args 0 [.ref 77, .int (nJ node), .int (nJ g)]) 0 = _ from rfl) ?_
    refine E_gr rfl hh (q := 92) rfl ?_
    refine E_il rfl (show pm_get (lv_args 0 [.ref 77, .int (nJ node), .int (nJ g)]) 1 = _ from rfl) ?_
    have b3 : gn h 92 node ≤ 8 := gn_hi hh (bd_u rfl (by omega)) (by decide)
    refine E_ial rfl hh rfl (by omega) (by decide) (gi_gn hh (bd_u rfl (by omega)) (by decide)) ?_
    refine E_call rfl (sp_isBit (by omega) (by omega)) (chkS rfl (by show 0 ≤ 8; decide)) (fun h4 r4 => ?_)
    rintro ⟨e4, f4⟩
    rw [e4, f4]
    show Ends _ _ (14, (lv_args 0 [.ref 77, .int (nJ node), .int (nJ g)]), [.int (nJ (bif isB g ((gn h 92 node)) then 1 else 0))], h, 0, 0) _
    by_cases hb5 : isB g ((gn h 92 node)) = true
    · refine E_ifT rfl (by rw [hb5]; rfl) ?_
      have hZ : ¬ (node ≠ 0 ∧ isB g (gn h 92 node) = false) := fun q => by rw [q.2] at hb5; cases hb5
      refine E_ci 1 rfl (by decide) ?_
      refine E_is rfl (fun lv6 L6_3 kp6 => ?_)
      have L6_0 := kp6 0 _ (by decide) rfl (show pm_get (lv_args 0 [.ref 77, .int (nJ node), .int (nJ g)]) 0 = _ from rfl)
      have L6_1 := kp6 1 _ (by decide) rfl (show pm_get (lv_args 0 [.ref 77, .int (nJ node), .int (nJ g)]) 1 = _ from rfl)
      have L6_2 := kp6 2 _ (by decide) rfl (show pm_get (lv_args 0 [.ref 77, .int (nJ node), .int (nJ g)]) 2 = _ from rfl)
      exact oe_loop hh hn hg (if_neg hZ) (gn h 84 0) (k := 1) lv6 (by omega) (by omega) (fun k1 h1 => ind_F (fun q => by omega)) L6_0 L6_1 L6_2 L6_3
    · refine E_ifF rfl (by rw [Bool.not_eq_true] at hb5; rw [hb5]; rfl) ?_
      refine E_al rfl (show pm_get (lv_args 0 [.ref 77, .int (nJ node), .int (nJ g)]) 0 = _ from rfl) ?_
      refine E_gr rfl hh (q := 92) rfl ?_
      refine E_il rfl (show pm_get (lv_args 0 [.ref 77, .int (nJ node), .int (nJ g)]) 1 = _ from rfl) ?_
      have b7 : gn h 92 node ≤ 8 := gn_hi hh (bd_u rfl (by omega)) (by decide)
      refine E_ial rfl hh rfl (by omega) (by decide) (gi_gn hh (bd_u rfl (by omega)) (by decide)) ?_
      exact E_rti rfl ⟨rfl, _, rfl, fun _ => ⟨_, by omega, rfl⟩⟩
end
