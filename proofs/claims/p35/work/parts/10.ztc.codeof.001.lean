section
theorem sp_otherEnd {h : pm_H} {d node g : Nat} (hh : HH h) (hn : node ≤ 8) (hg : g < 512) : Sp (d + 2) 318 h [.ref 77, .int (nJ node), .int (nJ g)] (fun h' r => h' = h ∧ ∃ x : Int32, r = some (.int x) ∧ (limb (gn h 92) g node (gn h 84 0) ≠ 0 → ∃ v, v ≤ 8 ∧ x = nJ v)) := by
  refine Sp_of aiX9_otherEnd rfl rfl rfl ?_
  refine E_il rfl (show pm_get (lv_args 0 [.ref 77, .int (nJ node), .int (nJ g)]) 1 = _ from rfl) ?_
  by_cases hb1 : node = 0
  · refine E_ifT rfl (decide_eq_true ((nJ_eq0 (by omega)).mpr hb1)) ?_
    have hZ : ¬ (node ≠ 0 ∧ isB g (gn h 92 node) = false) := fun q => q.1 hb1
    refine E_ci 1 rfl ci1 ?_
    refine E_is rfl (fun lv2 L2_3 kp2 => ?_)
    have L2_0 := kp2 0 _ (nbz rfl) rfl (show pm_get (lv_args 0 [.ref 77, .int (nJ node), .int (nJ g)]) 0 = _ from rfl)
    have L2_1 := kp2 1 _ (nbz rfl) rfl (show pm_get (lv_args 0 [.ref 77, .int (nJ node), .int (nJ g)]) 1 = _ from rfl)
    have L2_2 := kp2 2 _ (nbz rfl) rfl (show pm_get (lv_args 0 [.ref 77, .int (nJ node), .int (nJ g)]) 2 = _ from rfl)
    exact oe_loop hh hn hg (if_neg hZ) (gn h 84 0) (k := 1) lv2 (by omega) (by omega) (fun k1 h1 => ind_F (fun q => by omega)) L2_0 L2_1 L2_2 L2_3
  · refine E_ifF rfl (decide_eq_false (fun q => hb1 ((nJ_eq0 (by omega)).mp q))) ?_
    have hX : node ≠ 0 := hb1
    refine E_il rfl (show pm_get (lv_args 0 [.ref 77, .int (nJ node), .int (nJ g)]) 2 = _ from rfl) ?_
    refine E_al rfl (show pm_get (lv_args 0 [.ref 77, .int (nJ node), .int (nJ g)]) 0 = _ from rfl) ?_
    refine E_gr rfl hh (q := 92) rfl ?_
    refine E_il rfl (show pm_get (lv_args 0 [.ref 77, .int (nJ node), .int (nJ g)]) 1 = _ from rfl) ?_
    have b3 : gn h 92 node ≤ 8 := gn_hi hh (bd_u rfl (by omega)) (by decide)
    refine E_ial rfl hh rfl (by omega) (by decide) (gi_gn hh (bd_u rfl (by omega)) (by decide)) ?_
    refine E_call rfl (sp_isBit (by omega) (by omega)) (chkS rfl (by show 0 ≤ 8; decide)) (fun h4 r4 => ?_)
    rintro ⟨e4, f4⟩
    rw [e4, f4]
    show Ends _ _ (14, (lv_args 0 [.ref 77, .int (nJ node), .int (nJ g)]), [.int (nJ (bif isB g ((gn h 92 node)) then 1 else 0))], h, 0, 0) _
    by_cases hb5 : isB g ((gn h 92 node)) = true
    · refine E_ifT rfl (by rw [hb5]; rfl) ?_
      have hZ : ¬ (node ≠ 0 ∧ isB g (gn h 92 node) = false) := fun q => by rw [q.2] at hb5; cases hb5
      refine E_ci 1 rfl ci1 ?_
      refine E_is rfl (fun lv6 L6_3 kp6 => ?_)
      have L6_0 := kp6 0 _ (nbz rfl) rfl (show pm_get (lv_args 0 [.ref 77, .int (nJ node), .int (nJ g)]) 0 = _ from rfl)
      have L6_1 := kp6 1 _ (nbz rfl) rfl (show pm_get (lv_args 0 [.ref 77, .int (nJ node), .int (nJ g)]) 1 = _ from rfl)
      have L6_2 := kp6 2 _ (nbz rfl) rfl (show pm_get (lv_args 0 [.ref 77, .int (nJ node), .int (nJ g)]) 2 = _ from rfl)
      exact oe_loop hh hn hg (if_neg hZ) (gn h 84 0) (k := 1) lv6 (by omega) (by omega) (fun k1 h1 => ind_F (fun q => by omega)) L6_0 L6_1 L6_2 L6_3
    · refine E_ifF rfl (by rw [Bool.not_eq_true] at hb5; rw [hb5]; rfl) ?_
      refine E_al rfl (show pm_get (lv_args 0 [.ref 77, .int (nJ node), .int (nJ g)]) 0 = _ from rfl) ?_
      refine E_gr rfl hh (q := 92) rfl ?_
      refine E_il rfl (show pm_get (lv_args 0 [.ref 77, .int (nJ node), .int (nJ g)]) 1 = _ from rfl) ?_
      have b7 : gn h 92 node ≤ 8 := gn_hi hh (bd_u rfl (by omega)) (by decide)
      refine E_ial rfl hh rfl (by omega) (by decide) (gi_gn hh (bd_u rfl (by omega)) (by decide)) ?_
      exact E_rti rfl ⟨rfl, _, rfl, fun _ => ⟨_, by omega, rfl⟩⟩
noncomputable def NM : List Rng := [(95, 0, 7)]
noncomputable def LC (h0 h : pm_H) (P i g : Nat) : Prop := HH h ∧ fr_g NM h0 h ∧ g < 512 ∧ pcn g (P + 1) = i ∧ CI (gn h0 92) P g
theorem pI_lt {a P : Nat} (ha : a < 2147483648) (hP : P < 2147483648) : nJ a < pI P ↔ a + 1 < P := by
  cases P with
  | zero =>
    refine ⟨fun q => ?_, fun q => by omega⟩
    have h1 := Int32.lt_iff_toInt_lt.mp q
    rw [nJ_toInt ha] at h1
    have h2 : (pI 0).toInt = -1 := rfl
    omega
  | succ k =>
    show nJ a < nJ k ↔ _
    rw [nJ_lt ha (by omega)]
    omega
theorem lc_in {h0 : pm_H} {d P : Nat} (hh0 : HH h0) (hP : gn h0 84 0 = P) (hP8 : P ≤ 8) (hP1 : 1 ≤ P) (hD : ∀ v, 1 ≤ v → v ≤ P → dep (hg h0) 8 v ∧ gn h0 92 v ≤ P) {h : pm_H} {i g : Nat} (hh : HH h) (hg : g < 512) (hfe : gn h 92 = gn h0 92) (hpe : gn h 84 0 = P) (hle : ∃ v, v ≤ P ∧ isB g v = false ∧ limb (gn h0 92) g v P = 1) (K : ∀ {x : Nat} (lv : List (Nat × Value)), x ≤ P → isB g x = false → limb (gn h0 92) g x P = 1 → pm_get lv 0 = some (.ref 77) → pm_get lv 1 = some (.int (nJ (P + 1))) → pm_get lv 2 = some (.int (nJ g)) → pm_get lv 3 = some (.int (nJ i)) → pm_get lv 4 = some (.int (nJ x)) → Ends (pm_at tX9_laysCode) (pm_Rt pm_P (d + 3)) (61, lv, [], h, 0, 0) (fun h' r => r = none ∧ HH h' ∧ fr_g NM h0 h')) (j : Nat) : ∀ {l : Int32} (lv : List (Nat × Value)), j ≤ P + 1 → ((l = -1 ∧ ∀ v, j ≤ v → v ≤ P → ¬ (isB g v = false ∧ limb (gn h0 92) g v P = 1)) ∨ ∃ x, l = nJ x ∧ x ≤ P ∧ isB g x = false ∧ limb (gn h0 92) g x P = 1) → pm_get lv 0 = some (.ref 77) → pm_get lv 1 = some (.int (nJ (P + 1))) → pm_get lv 2 = some (.int (nJ g)) → pm_get lv 3 = some (.int (nJ i)) → pm_get lv 4 = some (.int l) → pm_get lv 5 = some (.int (pI j)) → Ends (pm_at tX9_laysCode) (pm_Rt pm_P (d + 3)) (26, lv, [], h, 0, 0) (fun h' r => r = none ∧ HH h' ∧ fr_g NM h0 h') := by
  induction j with
  | zero =>
    intro l lv hj hl L0 L1 L2 L3 L4 L5
    refine E_il rfl L5 ?_
    refine E_ifT rfl (by decide) ?_
    rcases hl with ⟨q1, q2⟩ | ⟨x, x1, x2, x3, x4⟩
    · obtain ⟨v, v1, v2, v3⟩ := hle; exact absurd ⟨v2, v3⟩ (q2 v (Nat.zero_le _) v1)
    · subst x1; exact K lv x2 x3 x4 L0 L1 L2 L3 L4
  | succ k ih =>
    intro l lv hj hl L0 L1 L2 L3 L4 L5
    have L5 : pm_get lv 5 = some (.int (nJ k)) := L5
    refine E_il rfl L5 ?_
    refine E_ifF rfl (decide_eq_false (nJ_lt0 (by omega))) ?_
    refine E_il rfl L2 ?_
    refine E_il rfl L5 ?_
    refine E_call rfl (sp_isBit (by omega) (by omega)) (chkS rfl (by show 0 ≤ 8; decide)) (fun h1 r1 => ?_)
    rintro ⟨e1, f1⟩
    rw [e1, f1]
    show Ends _ _ (37, lv, [.int (nJ (bif isB g k then 1 else 0))], h, 0, 0) _
    by_cases hb2 : isB g k = true
    · refine E_ifT rfl (by rw [hb2]; rfl) ?_
      have hZ : ¬ (isB g k = false ∧ limb (gn h0 92) g k P = 1) := fun q => by rw [q.1] at hb2; cases hb2
      refine E_inc rfl L5 (pI_dec _) (fun lv3 L3_5 kp3 => ?_)
      have L3_0 := kp3 0 _ (nbz rfl) rfl L0
      have L3_1 := kp3 1 _ (nbz rfl) rfl L1
      have L3_2 := kp3 2 _ (nbz rfl) rfl L2
      have L3_3 := kp3 3 _ (nbz rfl) rfl L3
      have L3_4 := kp3 4 _ (nbz rfl) rfl L4
      refine E_goto rfl ?_
      refine ih lv3 (by omega) ?_ L3_0 L3_1 L3_2 L3_3 L3_4 L3_5
      rcases hl with ⟨q1, q2⟩ | q
      · refine .inl ⟨q1, fun v v1 v2 => ?_⟩
        by_cases e : v = k
        · rw [e]; exact hZ
        · exact q2 v (by omega) v2
      · exact .inr q
    · refine E_ifF rfl (by rw [Bool.not_eq_true] at hb2; rw [hb2]; rfl) ?_
      have hX : isB g k = false := by rw [Bool.not_eq_true] at hb2; exact hb2
      refine E_al rfl L0 ?_
      refine E_il rfl L5 ?_
      refine E_il rfl L2 ?_
      refine E_call rfl (Sp_le (by first | exact Nat.add_le_add_left (Nat.le_of_ble_eq_true rfl) _ | exact Nat.le_of_ble_eq_true rfl | omega) (sp_limbsOf (d := 0) hh (by omega) (by omega))) (chk77 hh rfl rfl (by show 0 ≤ 8; decide)) (fun h4 r4 => ?_)
      rintro ⟨e4, f4⟩
      rw [e4, f4, hfe, hpe]
      have hl9 := limb_le (gn h0 92) g k P
      show Ends _ _ (47, lv, [.int (nJ (limb (gn h0 92) g k P))], h, 0, 0) _
      refine E_ci 1 rfl ci1 ?_
      by_cases hb5 : ¬ (limb (gn h0 92) g k P) = 1
      · refine E_icT rfl (decide_eq_true (fun q => hb5 ((nJ_eq (by omega) (by omega)).mp q))) ?_
        have hZ : ¬ (isB g k = false ∧ limb (gn h0 92) g k P = 1) := fun q => hb5 q.2
        refine E_inc rfl L5 (pI_dec _) (fun lv6 L6_5 kp6 => ?_)
        have L6_0 := kp6 0 _ (nbz rfl) rfl L0
        have L6_1 := kp6 1 _ (nbz rfl) rfl L1
        have L6_2 := kp6 2 _ (nbz rfl) rfl L2
        have L6_3 := kp6 3 _ (nbz rfl) rfl L3
        have L6_4 := kp6 4 _ (nbz rfl) rfl L4
        refine E_goto rfl ?_
        refine ih lv6 (by omega) ?_ L6_0 L6_1 L6_2 L6_3 L6_4 L6_5
        rcases hl with ⟨q1, q2⟩ | q
        · refine .inl ⟨q1, fun v v1 v2 => ?_⟩
          by_cases e : v = k
          · rw [e]; exact hZ
          · exact q2 v (by omega) v2
        · exact .inr q
      · refine E_icF rfl (decide_eq_false (fun q => hb5 (fun z => q ((nJ_eq (by omega) (by omega)).mpr z)))) ?_
        have hY : limb (gn h0 92) g k P = 1 := Classical.not_not.mp hb5
        refine E_il rfl L5 ?_
        refine E_is rfl (fun lv7 L7_4 kp7 => ?_)
        have L7_0 := kp7 0 _ (nbz rfl) rfl L0
        have L7_1 := kp7 1 _ (nbz rfl) rfl L1
        have L7_2 := kp7 2 _ (nbz rfl) rfl L2
        have L7_3 := kp7 3 _ (nbz rfl) rfl L3
        have L7_5 := kp7 5 _ (nbz rfl) rfl L5
        refine E_inc rfl L7_5 (pI_dec _) (fun lv8 L8_5 kp8 => ?_)
        have L8_0 := kp8 0 _ (nbz rfl) rfl L7_0
        have L8_1 := kp8 1 _ (nbz rfl) rfl L7_1
        have L8_2 := kp8 2 _ (nbz rfl) rfl L7_2
        have L8_3 := kp8 3 _ (nbz rfl) rfl L7_3
        have L8_4 := kp8 4 _ (nbz rfl) rfl L7_4
        refine E_goto rfl ?_
        exact ih lv8 (by omega) (.inr ⟨k, rfl, by omega, hX, hY⟩) L8_0 L8_1 L8_2 L8_3 L8_4 L8_5
theorem lc_out {h0 : pm_H} {d P : Nat} (hh0 : HH h0) (hP : gn h0 84 0 = P) (hP8 : P ≤ 8) (hP1 : 1 ≤ P) (hD : ∀ v, 1 ≤ v → v ≤ P → dep (hg h0) 8 v ∧ gn h0 92 v ≤ P) (j : Nat) : ∀ {h : pm_H} {i g : Nat} (lv : List (Nat × Value)), i + j = P - 1 → LC h0 h P i g → pm_get lv 0 = some (.ref 77) → pm_get lv 1 = some (.int (nJ (P + 1))) → pm_get lv 2 = some (.int (nJ g)) → pm_get lv 3 = some (.int (nJ i)) → Ends (pm_at tX9_laysCode) (pm_Rt pm_P (d + 3)) (11, lv, [], h, 0, 0) (fun h' r => r = none ∧ HH h' ∧ fr_g NM h0 h') := by
  induction j with
  | zero =>
    intro h i g lv hj hL L0 L1 L2 L3
    refine E_il rfl L3 ?_
    refine E_il rfl L1 ?_
    refine E_ci 2 rfl ci2 ?_
    refine E_bin rfl (nJ_sub (by omega)) ?_
    refine E_icT rfl (decide_eq_true ((nJ_le (by omega) (by omega)).mpr (by omega))) ?_
    exact E_ret rfl ⟨rfl, hL.1, hL.2.1⟩
  | succ j ih =>
    intro h i g lv hj hL L0 L1 L2 L3
    have hgl := hL.2.2.1
    have hpe : gn h 84 0 = P := by rw [fr_gn hL.2.1 (rg_no rfl _)]; exact hP
    refine E_il rfl L3 ?_
    refine E_il rfl L1 ?_
    refine E_ci 2 rfl ci2 ?_
    refine E_bin rfl (nJ_sub (by omega)) ?_
    refine E_icF rfl (decide_eq_false (fun q => absurd ((nJ_le (by omega) (by omega)).mp q) (by omega))) ?_
    refine E_c rfl ?_
    refine E_is rfl (fun lv1 L1_4 kp1 => ?_)
    have L1_0 := kp1 0 _ (nbz rfl) rfl L0
    have L1_1 := kp1 1 _ (nbz rfl) rfl L1
    have L1_2 := kp1 2 _ (nbz rfl) rfl L2
    have L1_3 := kp1 3 _ (nbz rfl) rfl L3
    refine E_il rfl L1_1 ?_
    refine E_ci 1 rfl ci1 ?_
    refine E_bin rfl (pI_of _) ?_
    refine E_is rfl (fun lv2 L2_5 kp2 => ?_)
    have L2_0 := kp2 0 _ (nbz rfl) rfl L1_0
    have L2_1 := kp2 1 _ (nbz rfl) rfl L1_1
    have L2_2 := kp2 2 _ (nbz rfl) rfl L1_2
    have L2_3 := kp2 3 _ (nbz rfl) rfl L1_3
    have L2_4 := kp2 4 _ (nbz rfl) rfl L1_4
    have hfe : gn h 92 = gn h0 92 := funext (fun v => fr_gn hL.2.1 (rg_no rfl _))
    have hle := leaf_in hP8 hL.2.2.1 hL.2.2.2.2 (fun v a b => by have := (hD v a b).1; rw [hg_gn] at this; exact this) (by rw [hL.2.2.2.1]; omega)
    refine lc_in hh0 hP hP8 hP1 hD hL.1 hL.2.2.1 hfe hpe hle (fun {x} lv1 x2 x3 x4 K0 K1 K2 K3 K4 => ?_) (P + 1) lv2 (by omega) (.inl ⟨rfl, fun v a b => by omega⟩) L2_0 L2_1 L2_2 L2_3 L2_4 L2_5
    obtain ⟨g2, hg2⟩ : ∃ g2, g2 = g + 2 ^ x := ⟨_, rfl⟩
    have hg2l : g2 < 512 := by rw [hg2]; exact isB_add_lt hL.2.2.1 (by omega) x3
    refine E_al rfl K0 ?_
    refine E_gr rfl hL.1 (q := 95) rfl ?_
    refine E_il rfl K3 ?_
    refine E_al rfl K0 ?_
    refine E_il rfl K4 ?_
    refine E_il rfl K2 ?_
    refine E_call rfl (Sp_le (by first | exact Nat.add_le_add_left (Nat.le_of_ble_eq_true rfl) _ | exact Nat.le_of_ble_eq_true rfl | omega) (sp_otherEnd (d := 0) hL.1 (by omega) (by omega))) (chk77 hL.1 rfl rfl (by show 2 ≤ 8; decide)) (fun h51 r51 => ?_)
    rintro ⟨e51, y51, f51, g51⟩
    obtain ⟨v9, hv9, rfl⟩ := g51 (by rw [hfe, hpe, x4]; decide)
    rw [e51, f51]
    show Ends _ _ (73, lv1, [.int (nJ v9), .int (nJ i), .ref 95], h, 0, 0) _
    refine E_ias rfl hL.1 rfl (by omega) (by decide) ?_
    have hh52 : HH (pt h 95 i (nJ v9)) := HH_ptn hL.1 (bd_u rfl (by omega)) (by omega) (by omega) (by omega)
    refine E_il rfl K2 ?_
    refine E_ci 1 rfl ci1 ?_
    refine E_il rfl K4 ?_
    refine E_bin rfl rfl ?_
    refine E_bin rfl (show nJ g ||| nJ 1 <<< (nJ x &&& 31) = nJ g2 from (by rw [hg2]; exact or_new hL.2.2.1 (by omega) x3)) ?_
    refine E_is rfl (fun lv53 L53_2 kp53 => ?_)
    have L53_0 := kp53 0 _ (nbz rfl) rfl K0
    have L53_1 := kp53 1 _ (nbz rfl) rfl K1
    have L53_3 := kp53 3 _ (nbz rfl) rfl K3
    have L53_4 := kp53 4 _ (nbz rfl) rfl K4
    refine E_inc rfl L53_3 (nJ_inc _) (fun lv54 L54_3 kp54 => ?_)
    have L54_0 := kp54 0 _ (nbz rfl) rfl L53_0
    have L54_1 := kp54 1 _ (nbz rfl) rfl L53_1
    have L54_2 := kp54 2 _ (nbz rfl) rfl L53_2
    have L54_4 := kp54 4 _ (nbz rfl) rfl L53_4
    refine E_goto rfl ?_
    exact ih lv54 (by omega) ⟨hh52, fr_ptr (l := 0) (u := 7) rfl (by omega) (by omega) hL.2.1, hg2l, by rw [hg2, pcn_add hL.2.2.1 (by omega) x3 (by omega), if_pos (by omega), hL.2.2.2.1], hg2 ▸ CI_step hP8 hL.2.2.1 (fun v a b => (hD v a b).2) hL.2.2.2.2 x2 x3 x4⟩ L54_0 L54_1 L54_2 L54_3
theorem sp_laysCode {h0 : pm_H} {d : Nat} (hh : HH h0) (hP1 : 1 ≤ gn h0 84 0) (hD : ∀ v, 1 ≤ v → v ≤ gn h0 84 0 → dep (hg h0) 8 v ∧ gn h0 92 v ≤ gn h0 84 0) : Sp (d + 4) 295 h0 [.ref 77] (fun h' r => r = none ∧ HH h' ∧ fr_g NM h0 h') := by
  refine Sp_of aiX9_laysCode rfl rfl rfl ?_
  refine E_al rfl (show pm_get (lv_args 0 [.ref 77]) 0 = _ from rfl) ?_
  refine E_call rfl (sp_places hh) (chk77 hh rfl rfl (by show 0 ≤ 8; decide)) (fun h1 r1 => ?_)
  rintro ⟨e1, f1, c1⟩
  rw [e1, f1]
  show Ends _ _ (4, (lv_args 0 [.ref 77]), [.int (nJ (gn h0 84 0))], h0, 0, 0) _
  refine E_ci 1 rfl ci1 ?_
  refine E_bin rfl (nJ_add _ _) ?_
  refine E_is rfl (fun lv2 L2_1 kp2 => ?_)
  have L2_0 := kp2 0 _ (nbz rfl) rfl (show pm_get (lv_args 0 [.ref 77]) 0 = _ from rfl)
  refine E_ci 0 rfl ci0 ?_
  refine E_is rfl (fun lv3 L3_2 kp3 => ?_)
  have L3_0 := kp3 0 _ (nbz rfl) rfl L2_0
  have L3_1 := kp3 1 _ (nbz rfl) rfl L2_1
  refine E_ci 0 rfl ci0 ?_
  refine E_is rfl (fun lv4 L4_3 kp4 => ?_)
  have L4_0 := kp4 0 _ (nbz rfl) rfl L3_0
  have L4_1 := kp4 1 _ (nbz rfl) rfl L3_1
  have L4_2 := kp4 2 _ (nbz rfl) rfl L3_2
  exact lc_out (P := gn h0 84 0) hh rfl (by omega) hP1 hD (gn h0 84 0 - 1) (i := 0) (g := 0) lv4 (by omega) ⟨hh, fr_rf _ _, by omega, pcn_zero _, 0, Nat.zero_le _, isB_zero _, fun v _ _ v3 => ⟨v3, isB_zero _⟩, .inl rfl⟩ L4_0 L4_1 L4_2 L4_3
theorem tp_code {h0 : pm_H} {d : Nat} {x : Int32} (hh0 : HH h0) (hR : RI 0 h0) : Sp (d + 30) 229 h0 [.ref 77, .int x] (TQ h0) := by
  refine Sp_of aiX9_code rfl rfl rfl ?_
  have L0 : pm_get (lv_args 0 [.ref 77, .int x]) 0 = some (.ref 77) := rfl
  have L1 : pm_get (lv_args 0 [.ref 77, .int x]) 1 = some (.int x) := rfl
  generalize lv_args 0 [.ref 77, .int x] = lv at L0 L1 ⊢
  refine E_al rfl L0 ?_
  refine E_ci 0 rfl ci0 ?_
  refine E_pf rfl hh0 rfl ?_
  have hh1 : HH (pt h0 77 0 (nJ 0)) := HH_ptn hh0 rfl (by omega) (by omega) (by omega)
  have fr1 : fr_g TM h0 (pt h0 77 0 (nJ 0)) := fr_ptr (l := 0) (u := 0) rfl (by omega) (by omega) (fr_rf TM h0)
  refine E_al rfl L0 ?_
  refine E_call rfl (sp_isStreet hh1) (chk77 hh1 rfl rfl (by show 0 ≤ 8; decide)) (fun h2 r2 => ?_)
  rintro ⟨e2, f2⟩
  rw [e2, f2]
  show Ends _ _ (9, lv, [.int (zb (0 < (gi (pt h0 77 0 (nJ 0)) 83 0).toInt))], (pt h0 77 0 (nJ 0)), 0, 0) _
  by_cases hb3 : ¬ (0 < (gi (pt h0 77 0 (nJ 0)) 83 0).toInt)
  · refine E_ifT rfl (by rw [zb_F hb3]; rfl) ?_
    refine E_c rfl ?_
    exact E_rti rfl ⟨hh1, fr1, _, rfl⟩
  · refine E_ifF rfl (by rw [zb_T (Classical.not_not.mp hb3)]; rfl) ?_
    refine E_il rfl L1 ?_
    by_cases hb4 : 0 ≤ x.toInt
    · refine E_ifT rfl (decide_eq_true (show (0 : Int32) ≤ x from Int32.le_iff_toInt_le.mpr hb4)) ?_
      obtain ⟨k, hk, rfl⟩ := nJ_of2 (n := 2147483647) hb4 (ai_hi x)
      refine E_al rfl L0 ?_
      refine E_call rfl (Sp_le (by first | exact Nat.add_le_add_left (Nat.le_of_ble_eq_true rfl) _ | exact Nat.le_of_ble_eq_true rfl | omega) (sp_lays (d := 0) hh1 (RI_fr hR rfl fr1))) (chk77 hh1 rfl rfl (by show 0 ≤ 8; decide)) (fun h5 r5 => ?_)
      rintro ⟨e5, hh5, fq5, wq5⟩
      rw [e5]
      have fr5 : fr_g TM h0 h5 := fr_trans fr1 (fr_wk rfl fq5)
      show Ends _ _ (23, lv, [], h5, 0, 0) _
      refine E_al rfl L0 ?_
      refine E_call rfl (Sp_le (by first | exact Nat.add_le_add_left (Nat.le_of_ble_eq_true rfl) _ | exact Nat.le_of_ble_eq_true rfl | omega) (sp_isLawful (d := 0) hh5)) (chk77 hh5 rfl rfl (by show 0 ≤ 8; decide)) (fun h6 r6 => ?_)
      rintro ⟨e6, f6⟩
      rw [e6]
      rcases f6 with f6 | ⟨f6, lw6⟩
      · rw [f6]
        show Ends _ _ (27, lv, [.int (nJ 0)], h5, 0, 0) _
        refine E_ifT rfl (by decide) ?_
        refine E_c rfl ?_
        exact E_rti rfl ⟨hh5, fr5, _, rfl⟩
      · rw [f6]
        show Ends _ _ (27, lv, [.int (nJ 1)], h5, 0, 0) _
        refine E_ifF rfl (by decide) ?_
        refine E_il rfl L1 ?_
        refine E_al rfl L0 ?_
        refine E_call rfl (sp_places hh5) (chk77 hh5 rfl rfl (by show 1 ≤ 8; decide)) (fun h7 r7 => ?_)
        rintro ⟨e7, f7, c7⟩
        rw [e7, f7]
        show Ends _ _ (35, lv, [.int (nJ (gn h5 84 0)), .int (nJ k)], h5, 0, 0) _
        refine E_ci 1 rfl ci1 ?_
        refine E_bin rfl (pI_of _) ?_
        by_cases hb8 : k + 1 < gn h5 84 0
        · refine E_icT rfl (decide_eq_true ((pI_lt (by omega) (by omega)).mpr hb8)) ?_
          have hP8 : gn h5 84 0 ≤ 8 := gn_hi hh5 rfl (by decide)
          have hCP := lw6.1
          refine E_al rfl L0 ?_
          refine E_call rfl (Sp_le (by first | exact Nat.add_le_add_left (Nat.le_of_ble_eq_true rfl) _ | exact Nat.le_of_ble_eq_true rfl | omega) (sp_laysTree (d := 0) hh5 lw6 wq5)) (chk77 hh5 rfl rfl (by show 0 ≤ 8; decide)) (fun h9 r9 => ?_)
          rintro ⟨e9, hh9, fq9, dq9⟩
          rw [e9]
          have fr9 : fr_g TM h0 h9 := fr_trans fr5 (fr_wk rfl fq9)
          have pe9 : gn h9 84 0 = gn h5 84 3 := by rw [fr_gn fq9 (rg_no rfl _)]; exact lw6.1.symm
          show Ends _ _ (46, lv, [], h9, 0, 0) _
          refine E_al rfl L0 ?_
          refine E_call rfl (Sp_le (by first | exact Nat.add_le_add_left (Nat.le_of_ble_eq_true rfl) _ | exact Nat.le_of_ble_eq_true rfl | omega) (sp_laysCode (d := 0) hh9 (by omega) (fun v h1 h2 => by have := dq9 v h1 (by omega); exact ⟨this.1, by omega⟩))) (chk77 hh9 rfl rfl (by show 0 ≤ 8; decide)) (fun h10 r10 => ?_)
          rintro ⟨e10, hh10, fq10⟩
          rw [e10]
          have fr10 : fr_g TM h0 h10 := fr_trans fr9 (fr_wk rfl fq10)
          show Ends _ _ (50, lv, [], h10, 0, 0) _
          refine E_al rfl L0 ?_
          refine E_gr rfl hh10 (q := 95) rfl ?_
          refine E_il rfl L1 ?_
          have b11 : gn h10 95 k ≤ 8 := gn_hi hh10 (bd_u rfl (by omega)) (by decide)
          refine E_ial rfl hh10 rfl (by omega) (by decide) (gi_gn hh10 (bd_u rfl (by omega)) (by decide)) ?_
          exact E_rti rfl ⟨hh10, fr10, _, rfl⟩
        · refine E_icF rfl (decide_eq_false (fun q => hb8 ((pI_lt (by omega) (by omega)).mp q))) ?_
          refine E_c rfl ?_
          exact E_rti rfl ⟨hh5, fr5, _, rfl⟩
    · refine E_ifF rfl (decide_eq_false (fun q => hb4 (Int32.le_iff_toInt_le.mp q))) ?_
      refine E_c rfl ?_
      exact E_rti rfl ⟨hh1, fr1, _, rfl⟩
end
section
/-! by hand: the ring (written by gen_t13.py) -/
noncomputable def QM : List Rng := [(90, 0, 9), (91, 0, 7)]
noncomputable def hq (h : pm_H) (q : Nat) : Int := (gi h 90 q).toInt
theorem hq_m1 {h : pm_H} {q : Nat} : gi h 90 q = -1 ↔ hq h q = -1 := ⟨fun e => by unfold hq; rw [e]; rfl, fun e => Int32.toInt_inj.mp e⟩
noncomputable def RF (h0 h : pm_H) (P c : Nat) : Prop := HH h ∧ fr_g QM h0 h ∧ cntf (hq h) 10 (P + 1) ≤ c
theorem RF_add {h0 h : pm_H} {P c v : Nat} (hP : P ≤ 8) (hc : c < 8) (R : RF h0 h P c) (h1 : 1 ≤ v) (h2 : v ≤ P + 1) : RF h0 (pt (pt h 90 v (nJ c)) 91 c (nJ v)) P (c + 1) := by
  obtain ⟨r1, r2, r3⟩ := R
  have hh1 : HH (pt h 90 v (nJ c)) := HH_ptn r1 (bd_u rfl (by omega)) (by omega) (by omega) (by omega)
  have hh2 : HH (pt (pt h 90 v (nJ c)) 91 c (nJ v)) := HH_ptn hh1 (bd_u rfl (by omega)) (by omega) (by omega) (by omega)
  refine ⟨hh2, fr_ptr (l := 0) (u := 7) rfl (by omega) (by omega) (fr_ptr (l := 0) (u := 9) rfl (by omega) (by omega) r2), ?_⟩
  have e : ∀ q, q ≤ P + 1 → q ≠ v → hq (pt (pt h 90 v (nJ c)) 91 c (nJ v)) q = hq h q := fun q _ hq' => by
    unfold hq
    rw [gi_ne (by first | exact gxx rfl | omega), gi_ne (fun _ => hq')]
  have k1 := cntf_inc (f := hq h) (g := hq (pt (pt h 90 v (nJ c)) 91 c (nJ v))) (v := v) (R := P + 1) e (by omega)
  rw [if_pos h2] at k1
  cases cntf_weak (f := hq h) (v := v) (P + 1) with
  | inl q => omega
  | inr q => omega
end
