section
/-! by hand: feed and end of class and reference (written by gen_t26.py) -/
theorem add_r {h : pm_H} {d s : Nat} {v x : Int32} {Q : pm_H → Option Value → Prop} (lv : List (Nat × Value)) (hh : HH h) (hn : gn h 1 1 < 500) (hs : s < 32) (hx : nJ s + (-8) = x) (L0 : pm_get lv 0 = some (.ref 1)) (L1 : pm_get lv 1 = some (.int v)) (L2 : pm_get lv 2 = some (.int (nJ s))) (K : ∀ lv : List (Nat × Value), pm_get lv 0 = some (.ref 1) → pm_get lv 1 = some (.int v) → pm_get lv 2 = some (.int x) → Ends (pm_at tX6_add) (pm_Rt pm_P d) (3, lv, [], rdb 2 1 1 h (byv v s), 0, 0) Q) : Ends (pm_at tX6_add) (pm_Rt pm_P d) (3, lv, [], h, 0, 0) Q := by
  refine E_il rfl L2 ?_
  refine E_ifF rfl (decide_eq_false (nJ_lt0 (by omega))) ?_
  refine E_al rfl L0 ?_
  refine E_ogf rfl hh rfl rfl (show gi h 1 1 = nJ ((gn h 1 1)) from (gi_gn hh rfl (by decide))) ?_
  refine E_ci 500 rfl (by decide) ?_
  refine E_icF rfl (decide_eq_false (fun q => absurd ((nJ_le (a := 500) (by omega) (by omega)).mp q) (by omega))) ?_
  refine E_al rfl L0 ?_
  refine E_ogr rfl hh rfl (q := 2) rfl ?_
  refine E_al rfl L0 ?_
  refine E_ogf rfl hh rfl rfl (show gi h 1 1 = nJ ((gn h 1 1)) from (gi_gn hh rfl (by decide))) ?_
  refine E_il rfl L1 ?_
  refine E_il rfl L2 ?_
  refine E_bin rfl rfl ?_
  refine E_un rfl ?_
  refine E_bas rfl hh rfl (by omega) (by decide) ?_
  obtain ⟨p1, p2, p3, p4, -, -, -⟩ := rdb_ok (b := byv v s) isT8 hh hn (nar_b _)
  show Ends _ _ (30, lv, [], (pt h 2 (gn h 1 1) (byv v s)), 0, 0) _
  refine E_al rfl L0 ?_
  refine E_dup rfl rfl ?_
  refine E_ogf rfl p1 rfl rfl (show gi (pt h 2 (gn h 1 1) (byv v s)) 1 1 = nJ ((gn h 1 1)) from (by rw [gi_ne (by omega)]; exact gi_gn hh rfl (by decide))) ?_
  refine E_ci 1 rfl (by decide) ?_
  refine E_bin rfl (nJ_add _ _) ?_
  refine E_opf rfl p1 rfl rfl ?_
  have hh1 : HH (pt (pt h 2 (gn h 1 1) (byv v s)) 1 1 (nJ (((gn h 1 1) + 1)))) := HH_ptn p1 rfl (by omega) (by omega) (by omega)
  refine E_inc rfl L2 hx (fun lv2 L2_2 kp2 => ?_)
  have L2_0 := kp2 0 _ (by decide) rfl L0
  have L2_1 := kp2 1 _ (by decide) rfl L1
  refine E_goto rfl ?_
  exact K lv2 L2_0 L2_1 L2_2
theorem sp_add {h : pm_H} {d : Nat} {v : Int32} (hh : HH h) (hn : gn h 1 1 + 4 ≤ 500) : Sp (d + 1) 55 h [.ref 1, .int v] (fun h' r => r = none ∧ h' = rd4 2 1 1 h v) := by
  refine Sp_of aiX6_add rfl rfl rfl ?_
  refine E_ci 24 rfl (by decide) ?_
  refine E_is rfl (fun lv1 L1_2 kp1 => ?_)
  have L1_0 := kp1 0 _ (by decide) rfl (show pm_get (lv_args 0 [.ref 1, .int v]) 0 = _ from rfl)
  have L1_1 := kp1 1 _ (by decide) rfl (show pm_get (lv_args 0 [.ref 1, .int v]) 1 = _ from rfl)
  have T := isT8
  obtain ⟨-, -, p1, p2, -, -, -⟩ := rdb_ok (b := byv v 24) T hh (by omega) (nar_b _)
  obtain ⟨-, -, q1, q2, -, -, -⟩ := rdb_ok (b := byv v 16) T p1 (by omega) (nar_b _)
  obtain ⟨-, -, r1, r2, -, -, -⟩ := rdb_ok (b := byv v 8) T q1 (by omega) (nar_b _)
  refine add_r (x := nJ 16) _ hh (by omega) (by omega) (by decide) L1_0 L1_1 L1_2 (fun lv A0 A1 A2 => ?_)
  refine add_r (x := nJ 8) _ p1 (by omega) (by omega) (by decide) A0 A1 A2 (fun lv A0 A1 A2 => ?_)
  refine add_r (x := nJ 0) _ q1 (by omega) (by omega) (by decide) A0 A1 A2 (fun lv A0 A1 A2 => ?_)
  refine add_r (x := -8) _ r1 (by omega) (by omega) (by decide) A0 A1 A2 (fun lv A0 A1 A2 => ?_)
  refine E_il rfl A2 ?_
  refine E_ifT rfl (by decide) ?_
  exact E_ret rfl ⟨rfl, rfl⟩
theorem four_r {h : pm_H} {d s : Nat} {v x : Int32} {Q : pm_H → Option Value → Prop} (lv : List (Nat × Value)) (hh : HH h) (hn : gn h 77 6 < 500) (hs : s < 32) (hx : nJ s + (-8) = x) (L0 : pm_get lv 0 = some (.ref 77)) (L1 : pm_get lv 1 = some (.int v)) (L2 : pm_get lv 2 = some (.int (nJ s))) (K : ∀ lv : List (Nat × Value), pm_get lv 0 = some (.ref 77) → pm_get lv 1 = some (.int v) → pm_get lv 2 = some (.int x) → Ends (pm_at tX9_four) (pm_Rt pm_P d) (3, lv, [], rdb 82 77 6 h (byv v s), 0, 0) Q) : Ends (pm_at tX9_four) (pm_Rt pm_P d) (3, lv, [], h, 0, 0) Q := by
  refine E_il rfl L2 ?_
  refine E_ifF rfl (decide_eq_false (nJ_lt0 (by omega))) ?_
  refine E_al rfl L0 ?_
  refine E_gr rfl hh (q := 82) rfl ?_
  refine E_al rfl L0 ?_
  refine E_gf rfl hh rfl (show gi h 77 6 = nJ ((gn h 77 6)) from (gi_gn hh rfl (by decide))) ?_
  refine E_il rfl L1 ?_
  refine E_il rfl L2 ?_
  refine E_bin rfl rfl ?_
  refine E_un rfl ?_
  refine E_bas rfl hh rfl (by omega) (by decide) ?_
  obtain ⟨p1, p2, p3, p4, -, -, -⟩ := rdb_ok (b := byv v s) isT9 hh hn (nar_b _)
  show Ends _ _ (20, lv, [], (pt h 82 (gn h 77 6) (byv v s)), 0, 0) _
  refine E_al rfl L0 ?_
  refine E_dup rfl rfl ?_
  refine E_gf rfl p1 rfl (show gi (pt h 82 (gn h 77 6) (byv v s)) 77 6 = nJ ((gn h 77 6)) from (by rw [gi_ne (by omega)]; exact gi_gn hh rfl (by decide))) ?_
  refine E_ci 1 rfl (by decide) ?_
  refine E_bin rfl (nJ_add _ _) ?_
  refine E_pf rfl p1 rfl ?_
  have hh1 : HH (pt (pt h 82 (gn h 77 6) (byv v s)) 77 6 (nJ (((gn h 77 6) + 1)))) := HH_ptn p1 rfl (by omega) (by omega) (by omega)
  refine E_inc rfl L2 hx (fun lv2 L2_2 kp2 => ?_)
  have L2_0 := kp2 0 _ (by decide) rfl L0
  have L2_1 := kp2 1 _ (by decide) rfl L1
  refine E_goto rfl ?_
  exact K lv2 L2_0 L2_1 L2_2
theorem sp_four {h : pm_H} {d : Nat} {v : Int32} (hh : HH h) (hn : gn h 77 6 + 4 ≤ 500) : Sp (d + 1) 252 h [.ref 77, .int v] (fun h' r => r = none ∧ h' = rd4 82 77 6 h v) := by
  refine Sp_of aiX9_four rfl rfl rfl ?_
  refine E_ci 24 rfl (by decide) ?_
  refine E_is rfl (fun lv1 L1_2 kp1 => ?_)
  have L1_0 := kp1 0 _ (by decide) rfl (show pm_get (lv_args 0 [.ref 77, .int v]) 0 = _ from rfl)
  have L1_1 := kp1 1 _ (by decide) rfl (show pm_get (lv_args 0 [.ref 77, .int v]) 1 = _ from rfl)
  have T := isT9
  obtain ⟨-, -, p1, p2, -, -, -⟩ := rdb_ok (b := byv v 24) T hh (by omega) (nar_b _)
  obtain ⟨-, -, q1, q2, -, -, -⟩ := rdb_ok (b := byv v 16) T p1 (by omega) (nar_b _)
  obtain ⟨-, -, r1, r2, -, -, -⟩ := rdb_ok (b := byv v 8) T q1 (by omega) (nar_b _)
  refine four_r (x := nJ 16) _ hh (by omega) (by omega) (by decide) L1_0 L1_1 L1_2 (fun lv A0 A1 A2 => ?_)
  refine four_r (x := nJ 8) _ p1 (by omega) (by omega) (by decide) A0 A1 A2 (fun lv A0 A1 A2 => ?_)
  refine four_r (x := nJ 0) _ q1 (by omega) (by omega) (by decide) A0 A1 A2 (fun lv A0 A1 A2 => ?_)
  refine four_r (x := -8) _ r1 (by omega) (by omega) (by decide) A0 A1 A2 (fun lv A0 A1 A2 => ?_)
  refine E_il rfl A2 ?_
  refine E_ifT rfl (by decide) ?_
  exact E_ret rfl ⟨rfl, rfl⟩
theorem sp_feed8 {h : pm_H} {dd : Nat} {a b c d e : Int32} (hh : HH h) : Sp (dd + 2) 106 h [.ref 0, .int a, .int b, .int c, .int d, .int e] (fun h' r => (gn h 1 1 + 20 ≤ 500 ∧ h' = rd20 2 1 1 h a b c d e ∧ r = some (.int (nJ (gn h 1 1 + 20)))) ∨ (¬ gn h 1 1 + 20 ≤ 500 ∧ h' = h ∧ r = some (.int (-1)))) := by
  have hn5 : gn h 1 1 ≤ 500 := gn_hi hh rfl (by decide)
  refine Sp_of aiX8_feed rfl rfl rfl ?_
  refine E_al rfl (show pm_get (lv_args 0 [.ref 0, .int a, .int b, .int c, .int d, .int e]) 0 = _ from rfl) ?_
  refine E_ogr rfl hh rfl (q := 1) rfl ?_
  refine E_ogf rfl hh rfl rfl (show gi h 1 1 = nJ ((gn h 1 1)) from (gi_gn hh rfl (by decide))) ?_
  refine E_ci 480 rfl (by decide) ?_
  by_cases hb1 : (gn h 1 1) ≤ 480
  · refine E_icT rfl (decide_eq_true ((nJ_le (by omega) (by omega)).mpr hb1)) ?_
    refine E_al rfl (show pm_get (lv_args 0 [.ref 0, .int a, .int b, .int c, .int d, .int e]) 0 = _ from rfl) ?_
    refine E_ogr rfl hh rfl (q := 1) rfl ?_
    refine E_il rfl (show pm_get (lv_args 0 [.ref 0, .int a, .int b, .int c, .int d, .int e]) 1 = _ from rfl) ?_
    refine E_call rfl (Sp_le (by omega) (sp_add (d := 0) hh (by omega))) (chkO (a := 1) hh rfl rfl rfl rfl (by show 0 ≤ 8; decide)) (fun h2 r2 => ?_)
    rintro ⟨e2, f2⟩
    rw [e2, f2]
    obtain ⟨y2, n2, -, -, -⟩ := rd4_ok (v := a) isT8 hh (by omega)
    show Ends _ _ (23, (lv_args 0 [.ref 0, .int a, .int b, .int c, .int d, .int e]), [], (rd4 2 1 1 h a), 0, 0) _
    refine E_al rfl (show pm_get (lv_args 0 [.ref 0, .int a, .int b, .int c, .int d, .int e]) 0 = _ from rfl) ?_
    refine E_ogr rfl y2 rfl (q := 1) rfl ?_
    refine E_il rfl (show pm_get (lv_args 0 [.ref 0, .int a, .int b, .int c, .int d, .int e]) 2 = _ from rfl) ?_
    refine E_call rfl (Sp_le (by omega) (sp_add (d := 0) y2 (by omega))) (chkO (a := 1) y2 rfl rfl rfl rfl (by show 0 ≤ 8; decide)) (fun h3 r3 => ?_)
    rintro ⟨e3, f3⟩
    rw [e3, f3]
    obtain ⟨y3, n3, -, -, -⟩ := rd4_ok (v := b) isT8 y2 (by omega)
    show Ends _ _ (31, (lv_args 0 [.ref 0, .int a, .int b, .int c, .int d, .int e]), [], (rd4 2 1 1 (rd4 2 1 1 h a) b), 0, 0) _
    refine E_al rfl (show pm_get (lv_args 0 [.ref 0, .int a, .int b, .int c, .int d, .int e]) 0 = _ from rfl) ?_
    refine E_ogr rfl y3 rfl (q := 1) rfl ?_
    refine E_il rfl (show pm_get (lv_args 0 [.ref 0, .int a, .int b, .int c, .int d, .int e]) 3 = _ from rfl) ?_
    refine E_call rfl (Sp_le (by omega) (sp_add (d := 0) y3 (by omega))) (chkO (a := 1) y3 rfl rfl rfl rfl (by show 0 ≤ 8; decide)) (fun h4 r4 => ?_)
    rintro ⟨e4, f4⟩
    rw [e4, f4]
    obtain ⟨y4, n4, -, -, -⟩ := rd4_ok (v := c) isT8 y3 (by omega)
    show Ends _ _ (39, (lv_args 0 [.ref 0, .int a, .int b, .int c, .int d, .int e]), [], (rd4 2 1 1 (rd4 2 1 1 (rd4 2 1 1 h a) b) c), 0, 0) _
    refine E_al rfl (show pm_get (lv_args 0 [.ref 0, .int a, .int b, .int c, .int d, .int e]) 0 = _ from rfl) ?_
    refine E_ogr rfl y4 rfl (q := 1) rfl ?_
    refine E_il rfl (show pm_get (lv_args 0 [.ref 0, .int a, .int b, .int c, .int d, .int e]) 4 = _ from rfl) ?_
    refine E_call rfl (Sp_le (by omega) (sp_add (d := 0) y4 (by omega))) (chkO (a := 1) y4 rfl rfl rfl rfl (by show 0 ≤ 8; decide)) (fun h5 r5 => ?_)
    rintro ⟨e5, f5⟩
    rw [e5, f5]
    obtain ⟨y5, n5, -, -, -⟩ := rd4_ok (v := d) isT8 y4 (by omega)
    show Ends _ _ (48, (lv_args 0 [.ref 0, .int a, .int b, .int c, .int d, .int e]), [], (rd4 2 1 1 (rd4 2 1 1 (rd4 2 1 1 (rd4 2 1 1 h a) b) c) d), 0, 0) _
    refine E_al rfl (show pm_get (lv_args 0 [.ref 0, .int a, .int b, .int c, .int d, .int e]) 0 = _ from rfl) ?_
    refine E_ogr rfl y5 rfl (q := 1) rfl ?_
    refine E_il rfl (show pm_get (lv_args 0 [.ref 0, .int a, .int b, .int c, .int d, .int e]) 5 = _ from rfl) ?_
    refine E_call rfl (Sp_le (by omega) (sp_add (d := 0) y5 (by omega))) (chkO (a := 1) y5 rfl rfl rfl rfl (by show 0 ≤ 8; decide)) (fun h6 r6 => ?_)
    rintro ⟨e6, f6⟩
    rw [e6, f6]
    obtain ⟨y6, n6, -, -, -⟩ := rd4_ok (v := e) isT8 y5 (by omega)
    show Ends _ _ (57, (lv_args 0 [.ref 0, .int a, .int b, .int c, .int d, .int e]), [], (rd4 2 1 1 (rd4 2 1 1 (rd4 2 1 1 (rd4 2 1 1 (rd4 2 1 1 h a) b) c) d) e), 0, 0) _
    refine E_al rfl (show pm_get (lv_args 0 [.ref 0, .int a, .int b, .int c, .int d, .int e]) 0 = _ from rfl) ?_
    refine E_ogr rfl y6 rfl (q := 1) rfl ?_
    refine E_ogf rfl y6 rfl rfl (show gi (rd4 2 1 1 (rd4 2 1 1 (rd4 2 1 1 (rd4 2 1 1 (rd4 2 1 1 h a) b) c) d) e) 1 1 = nJ ((gn h 1 1 + 20)) from (by rw [gi_gn y6 rfl (by decide)]; exact congrArg nJ (by omega))) ?_
    exact E_rti rfl (.inl ⟨by omega, rfl, rfl⟩)
  · refine E_icF rfl (decide_eq_false (fun q => hb1 ((nJ_le (by omega) (by omega)).mp q))) ?_
    refine E_c rfl ?_
    exact E_rti rfl (.inr ⟨by omega, rfl, rfl⟩)
theorem sp_feed9 {h : pm_H} {dd : Nat} {a b c d e : Int32} (hh : HH h) : Sp (dd + 2) 247 h [.ref 77, .int a, .int b, .int c, .int d, .int e] (fun h' r => (gn h 77 6 + 20 ≤ 500 ∧ h' = rd20 82 77 6 (pt h 77 0 (nJ 0)) a b c d e ∧ r = some (.int (nJ (gn h 77 6 + 20)))) ∨ (¬ gn h 77 6 + 20 ≤ 500 ∧ h' = (pt h 77 0 (nJ 0)) ∧ r = some (.int (-1)))) := by
  have hn5 : gn h 77 6 ≤ 500 := gn_hi hh rfl (by decide)
  refine Sp_of aiX9_feed rfl rfl rfl ?_
  refine E_al rfl (show pm_get (lv_args 0 [.ref 77, .int a, .int b, .int c, .int d, .int e]) 0 = _ from rfl) ?_
  refine E_ci 0 rfl (by decide) ?_
  refine E_pf rfl hh rfl ?_
  have hh1 : HH (pt h 77 0 (nJ 0)) := HH_ptn hh rfl (by omega) (by omega) (by omega)
  have n0 : gn (pt h 77 0 (nJ 0)) 77 6 = gn h 77 6 := gn_ne (by omega)
  refine E_al rfl (show pm_get (lv_args 0 [.ref 77, .int a, .int b, .int c, .int d, .int e]) 0 = _ from rfl) ?_
  refine E_gf rfl hh1 rfl (show gi (pt h 77 0 (nJ 0)) 77 6 = nJ ((gn h 77 6)) from (by rw [gi_ne (by omega)]; exact gi_gn hh rfl (by decide))) ?_
  refine E_ci 20 rfl (by decide) ?_
  refine E_bin rfl (nJ_add _ _) ?_
  refine E_ci 500 rfl (by decide) ?_
  by_cases hb2 : ((gn h 77 6) + 20) ≤ 500
  · refine E_icT rfl (decide_eq_true ((nJ_le (by omega) (by omega)).mpr hb2)) ?_
    refine E_al rfl (show pm_get (lv_args 0 [.ref 77, .int a, .int b, .int c, .int d, .int e]) 0 = _ from rfl) ?_
    refine E_il rfl (show pm_get (lv_args 0 [.ref 77, .int a, .int b, .int c, .int d, .int e]) 1 = _ from rfl) ?_
    refine E_call rfl (Sp_le (by omega) (sp_four (d := 0) hh1 (by omega))) (chk77 hh1 rfl rfl (by show 0 ≤ 8; decide)) (fun h3 r3 => ?_)
    rintro ⟨e3, f3⟩
    rw [e3, f3]
    obtain ⟨y3, n3, -, -, -⟩ := rd4_ok (v := a) isT9 hh1 (by omega)
    show Ends _ _ (25, (lv_args 0 [.ref 77, .int a, .int b, .int c, .int d, .int e]), [], (rd4 82 77 6 (pt h 77 0 (nJ 0)) a), 0, 0) _
    refine E_al rfl (show pm_get (lv_args 0 [.ref 77, .int a, .int b, .int c, .int d, .int e]) 0 = _ from rfl) ?_
    refine E_il rfl (show pm_get (lv_args 0 [.ref 77, .int a, .int b, .int c, .int d, .int e]) 2 = _ from rfl) ?_
    refine E_call rfl (Sp_le (by omega) (sp_four (d := 0) y3 (by omega))) (chk77 y3 rfl rfl (by show 0 ≤ 8; decide)) (fun h4 r4 => ?_)
    rintro ⟨e4, f4⟩
    rw [e4, f4]
    obtain ⟨y4, n4, -, -, -⟩ := rd4_ok (v := b) isT9 y3 (by omega)
    show Ends _ _ (30, (lv_args 0 [.ref 77, .int a, .int b, .int c, .int d, .int e]), [], (rd4 82 77 6 (rd4 82 77 6 (pt h 77 0 (nJ 0)) a) b), 0, 0) _
    refine E_al rfl (show pm_get (lv_args 0 [.ref 77, .int a, .int b, .int c, .int d, .int e]) 0 = _ from rfl) ?_
    refine E_il rfl (show pm_get (lv_args 0 [.ref 77, .int a, .int b, .int c, .int d, .int e]) 3 = _ from rfl) ?_
    refine E_call rfl (Sp_le (by omega) (sp_four (d := 0) y4 (by omega))) (chk77 y4 rfl rfl (by show 0 ≤ 8; decide)) (fun h5 r5 => ?_)
    rintro ⟨e5, f5⟩
    rw [e5, f5]
    obtain ⟨y5, n5, -, -, -⟩ := rd4_ok (v := c) isT9 y4 (by omega)
    show Ends _ _ (35, (lv_args 0 [.ref 77, .int a, .int b, .int c, .int d, .int e]), [], (rd4 82 77 6 (rd4 82 77 6 (rd4 82 77 6 (pt h 77 0 (nJ 0)) a) b) c), 0, 0) _
    refine E_al rfl (show pm_get (lv_args 0 [.ref 77, .int a, .int b, .int c, .int d, .int e]) 0 = _ from rfl) ?_
    refine E_il rfl (show pm_get (lv_args 0 [.ref 77, .int a, .int b, .int c, .int d, .int e]) 4 = _ from rfl) ?_
    refine E_call rfl (Sp_le (by omega) (sp_four (d := 0) y5 (by omega))) (chk77 y5 rfl rfl (by show 0 ≤ 8; decide)) (fun h6 r6 => ?_)
    rintro ⟨e6, f6⟩
    rw [e6, f6]
    obtain ⟨y6, n6, -, -, -⟩ := rd4_ok (v := d) isT9 y5 (by omega)
    show Ends _ _ (41, (lv_args 0 [.ref 77, .int a, .int b, .int c, .int d, .int e]), [], (rd4 82 77 6 (rd4 82 77 6 (rd4 82 77 6 (rd4 82 77 6 (pt h 77 0 (nJ 0)) a) b) c) d), 0, 0) _
    refine E_al rfl (show pm_get (lv_args 0 [.ref 77, .int a, .int b, .int c, .int d, .int e]) 0 = _ from rfl) ?_
    refine E_il rfl (show pm_get (lv_args 0 [.ref 77, .int a, .int b, .int c, .int d, .int e]) 5 = _ from rfl) ?_
    refine E_call rfl (Sp_le (by omega) (sp_four (d := 0) y6 (by omega))) (chk77 y6 rfl rfl (by show 0 ≤ 8; decide)) (fun h7 r7 => ?_)
    rintro ⟨e7, f7⟩
    rw [e7, f7]
    obtain ⟨y7, n7, -, -, -⟩ := rd4_ok (v := e) isT9 y6 (by omega)
    show Ends _ _ (47, (lv_args 0 [.ref 77, .int a, .int b, .int c, .int d, .int e]), [], (rd4 82 77 6 (rd4 82 77 6 (rd4 82 77 6 (rd4 82 77 6 (rd4 82 77 6 (pt h 77 0 (nJ 0)) a) b) c) d) e), 0, 0) _
    refine E_al rfl (show pm_get (lv_args 0 [.ref 77, .int a, .int b, .int c, .int d, .int e]) 0 = _ from rfl) ?_
    refine E_gf rfl y7 rfl (show gi (rd4 82 77 6 (rd4 82 77 6 (rd4 82 77 6 (rd4 82 77 6 (rd4 82 77 6 (pt h 77 0 (nJ 0)) a) b) c) d) e) 77 6 = nJ ((gn h 77 6 + 20)) from (by rw [gi_gn y7 rfl (by decide)]; exact congrArg nJ (by omega))) ?_
    exact E_rti rfl (.inl ⟨by omega, rfl, rfl⟩)
  · refine E_icF rfl (decide_eq_false (fun q => hb2 ((nJ_le (by omega) (by omega)).mp q))) ?_
    refine E_c rfl ?_
    exact E_rti rfl (.inr ⟨by omega, rfl, rfl⟩)
theorem sp_end8 {h : pm_H} {d : Nat} {x : Int32} (hh : HH h) : Sp (d + 1) 101 h [.ref 0, .int x] (fun h' r => ((0 ≤ x.toInt ∧ x.toInt ≤ (gn h 1 1 : Int)) ∧ h' = pt h 1 1 x ∧ r = some (.int x)) ∨ (¬ (0 ≤ x.toInt ∧ x.toInt ≤ (gn h 1 1 : Int)) ∧ h' = h ∧ r = some (.int (-1)))) := by
  have hn5 : gn h 1 1 ≤ 500 := gn_hi hh rfl (by decide)
  refine Sp_of aiX8_end rfl rfl rfl ?_
  refine E_il rfl (show pm_get (lv_args 0 [.ref 0, .int x]) 1 = _ from rfl) ?_
  by_cases hb1 : x.toInt < 0
  · refine E_ifT rfl (decide_eq_true (Int32.lt_iff_toInt_lt.mpr hb1)) ?_
    refine E_c rfl ?_
    exact E_rti rfl (.inr ⟨fun q => by have q1 := q.1; have q2 := q.2; omega, rfl, rfl⟩)
  · refine E_ifF rfl (decide_eq_false (fun q => hb1 (Int32.lt_iff_toInt_lt.mp q))) ?_
    refine E_il rfl (show pm_get (lv_args 0 [.ref 0, .int x]) 1 = _ from rfl) ?_
    refine E_al rfl (show pm_get (lv_args 0 [.ref 0, .int x]) 0 = _ from rfl) ?_
    refine E_ogr rfl hh rfl (q := 1) rfl ?_
    refine E_ogf rfl hh rfl rfl (show gi h 1 1 = nJ ((gn h 1 1)) from (gi_gn hh rfl (by decide))) ?_
    by_cases hb2 : x.toInt ≤ (gn h 1 1 : Int)
    · refine E_icT rfl (decide_eq_true (Int32.le_iff_toInt_le.mpr (by rw [nJ_toInt (by omega)]; exact hb2))) ?_
      have hx0 : 0 ≤ x.toInt := by omega
      have hx1 : x.toInt ≤ (gn h 1 1 : Int) := hb2
      refine E_al rfl (show pm_get (lv_args 0 [.ref 0, .int x]) 0 = _ from rfl) ?_
      refine E_ogr rfl hh rfl (q := 1) rfl ?_
      refine E_il rfl (show pm_get (lv_args 0 [.ref 0, .int x]) 1 = _ from rfl) ?_
      refine E_opf rfl hh rfl rfl ?_
      have hh3 : HH (pt h 1 1 x) := HH_pt hh rfl (by show (0 : Int) ≤ _; exact hx0) (by show _ ≤ (500 : Int); omega)
      refine E_il rfl (show pm_get (lv_args 0 [.ref 0, .int x]) 1 = _ from rfl) ?_
      exact E_rti rfl (.inl ⟨⟨hx0, hx1⟩, rfl, rfl⟩)
    · refine E_icF rfl (decide_eq_false (fun q => hb2 (by have q9 := Int32.le_iff_toInt_le.mp q; rw [nJ_toInt (by omega)] at q9; exact q9))) ?_
      refine E_c rfl ?_
      exact E_rti rfl (.inr ⟨fun q => by have q1 := q.1; have q2 := q.2; omega, rfl, rfl⟩)
theorem sp_end9 {h : pm_H} {d : Nat} {x : Int32} (hh : HH h) : Sp (d + 2) 241 h [.ref 77, .int x] (fun h' r => ((0 ≤ x.toInt ∧ x.toInt ≤ ((gn h 77 6 : Nat) : Int)) ∧ h' = pt (pt h 77 0 (nJ 0)) 77 6 x ∧ r = some (.int x)) ∨ (¬ (0 ≤ x.toInt ∧ x.toInt ≤ ((gn h 77 6 : Nat) : Int)) ∧ h' = pt h 77 0 (nJ 0) ∧ r = some (.int (-1)))) := by
  have hn5 : gn h 77 6 ≤ 500 := gn_hi hh rfl (by decide)
  refine Sp_of aiX9_end rfl rfl rfl ?_
  refine E_al rfl (show pm_get (lv_args 0 [.ref 77, .int x]) 0 = _ from rfl) ?_
  refine E_ci 0 rfl (by decide) ?_
  refine E_pf rfl hh rfl ?_
  have hh1 : HH (pt h 77 0 (nJ 0)) := HH_ptn hh rfl (by omega) (by omega) (by omega)
  refine E_il rfl (show pm_get (lv_args 0 [.ref 77, .int x]) 1 = _ from rfl) ?_
  refine E_i2l rfl ?_
  refine E_c rfl ?_
  refine E_al rfl (show pm_get (lv_args 0 [.ref 77, .int x]) 0 = _ from rfl) ?_
  refine E_gf rfl hh1 rfl (show gi (pt h 77 0 (nJ 0)) 77 6 = nJ ((gn h 77 6)) from (by rw [gi_ne (by omega)]; exact gi_gn hh rfl (by decide))) ?_
  refine E_i2l rfl ?_
  refine E_call rfl (sp_in (a := x.toInt) (b := 0) (c := ((((gn h 77 6)) : Nat) : Int)) (i2l_toInt _) rfl (i2l_nJ (by omega))) (chkS rfl (by show 0 ≤ 8; decide)) (fun h2 r2 => ?_)
  rintro ⟨e2, f2⟩
  rw [e2, f2]
  show Ends _ _ (16, (lv_args 0 [.ref 77, .int x]), [.int (zb (0 ≤ x.toInt ∧ x.toInt ≤ ((((gn h 77 6)) : Nat) : Int)))], (pt h 77 0 (nJ 0)), 0, 0) _
  by_cases hb3 : 0 ≤ x.toInt ∧ x.toInt ≤ ((((gn h 77 6)) : Nat) : Int)
  · refine E_ifT rfl (by rw [zb_T hb3]; rfl) ?_
    refine E_al rfl (show pm_get (lv_args 0 [.ref 77, .int x]) 0 = _ from rfl) ?_
    refine E_il rfl (show pm_get (lv_args 0 [.ref 77, .int x]) 1 = _ from rfl) ?_
    refine E_pf rfl hh1 rfl ?_
    have hh4 : HH (pt (pt h 77 0 (nJ 0)) 77 6 x) := HH_pt hh1 rfl (by show (0 : Int) ≤ _; exact hb3.1) (by show _ ≤ (500 : Int); have := hb3.2; omega)
    refine E_il rfl (show pm_get (lv_args 0 [.ref 77, .int x]) 1 = _ from rfl) ?_
    exact E_rti rfl (.inl ⟨hb3, rfl, rfl⟩)
  · refine E_ifF rfl (by rw [zb_F hb3]; rfl) ?_
    refine E_c rfl ?_
    exact E_rti rfl (.inr ⟨hb3, rfl, rfl⟩)
end
section
/-! the relation of class and reference (written by gen_t27.py) -/
noncomputable def KP (h : pm_H) : Prop := ∀ j, j < 3 → gi h 52 j = gi h 88 j
noncomputable def REL (h : pm_H) : Prop := TP h ∧ KP h
noncomputable def IVR (h : pm_H) : Prop := IVh h ∧ REL h
noncomputable def kpB (M : List Rng) : Bool := M.all (fun r => !(Nat.beq r.1 52)) && M.all (fun r => !(Nat.beq r.1 88))
noncomputable def tpB (M : List Rng) : Bool := (!(rg_in M 1 1) && !(rg_in M 77 6)) && (M.all (fun r => !(Nat.beq r.1 2)) && M.all (fun r => !(Nat.beq r.1 82)))
noncomputable def relB (M : List Rng) : Bool := tpB M && kpB M
theorem KP_fr {M : List Rng} {h h' : pm_H} (hf : fr_g M h h') (hb : kpB M = true) (K : KP h) : KP h' := by
  unfold kpB at hb
  rw [Bool.and_eq_true] at hb
  intro j hj
  rw [fr_gi hf (rg_no hb.1 j), fr_gi hf (rg_no hb.2 j)]
  exact K j hj
theorem TP_frB {M : List Rng} {h h' : pm_H} (hf : fr_g M h h') (hb : tpB M = true) (T : TP h) : TP h' := by
  unfold tpB at hb
  rw [Bool.and_eq_true, Bool.and_eq_true, Bool.and_eq_true, Bool.not_eq_true', Bool.not_eq_true'] at hb
  exact TP_fr hf hb.1.1 hb.1.2 hb.2.1 hb.2.2 T
theorem REL_fr {M : List Rng} {h h' : pm_H} (hf : fr_g M h h') (hb : relB M = true) (R : REL h) : REL h' := by
  unfold relB at hb
  rw [Bool.and_eq_true] at hb
  exact ⟨TP_frB hf hb.1 R.1, KP_fr hf hb.2 R.2⟩
theorem tR_int {d y : Nat} {h : pm_H} {as : List Value} {M : List Rng} (hd : Nat.ble d 100 = true) (hM : relB M = true) (R : REL h) (k : Sp d y h as (fun h' r => IVh h' ∧ fr_g M h h' ∧ ∃ x : Int32, r = some (.int x))) : Sp 100 y h as (fun h' r => IVR h' ∧ ∃ x : Int32, r = some (.int x)) :=
  Sp_le (Nat.le_of_ble_eq_true hd) (Sp_mono (fun _ _ q => ⟨⟨q.1, REL_fr q.2.1 hM R⟩, q.2.2⟩) k)
theorem tR_lng {d y : Nat} {h : pm_H} {as : List Value} {M : List Rng} (hd : Nat.ble d 100 = true) (hM : relB M = true) (R : REL h) (k : Sp d y h as (fun h' r => IVh h' ∧ fr_g M h h' ∧ ∃ x : Int64, r = some (.long x))) : Sp 100 y h as (fun h' r => IVR h' ∧ ∃ x : Int64, r = some (.long x)) :=
  Sp_le (Nat.le_of_ble_eq_true hd) (Sp_mono (fun _ _ q => ⟨⟨q.1, REL_fr q.2.1 hM R⟩, q.2.2⟩) k)
/-- feed: between the class's call and the reference's -/
noncomputable def half_feed (h : pm_H) (x a b c d e : Int32) : Prop := KP h ∧ ((gn h 77 6 + 20 ≤ 500 ∧ x = nJ (gn h 77 6 + 20) ∧ gn h 1 1 = gn h 77 6 + 20 ∧ (∀ j, j < gn h 77 6 → gi h 2 j = gi h 82 j) ∧ ∀ i, i < 20 → gi h 2 (gn h 77 6 + i) = b20 a b c d e i) ∨ (¬ gn h 77 6 + 20 ≤ 500 ∧ x = -1 ∧ TP h))
theorem c8_feed {h : pm_H} {a b c d e : Int32} (I : IVR h) : Sp 100 106 h [.ref 0, .int a, .int b, .int c, .int d, .int e] (fun h' r => IVh h' ∧ ∃ x : Int32, r = some (.int x) ∧ half_feed h' x a b c d e) := by
  refine Sp_le (by omega) (Sp_mono ?_ (Sp_and (top_all (as := [.ref 0, .int a, .int b, .int c, .int d, .int e]) q1 (by decide +kernel) I.1 ⟨rfl, aI _, aI _, aI _, aI _, aI _, trivial⟩) (sp_feed8 (dd := 0) I.1.1)))
  rintro h' r ⟨⟨s1, s2, -⟩, s3⟩
  obtain ⟨T1, T2⟩ := I.2.1
  have e6 : gn h' 77 6 = gn h 77 6 := fr_gn s2 rfl
  have k1 : KP h' := KP_fr s2 rfl I.2.2
  rcases s3 with ⟨n1, e1, rfl⟩ | ⟨n1, e1, rfl⟩
  · obtain ⟨p1, p2, p3, p4, p5⟩ := rd20_ok (v1 := a) (v2 := b) (v3 := c) (v4 := d) (v5 := e) isT8 I.1.1 n1
    rw [← e1] at p2 p3 p4
    refine ⟨s1, _, rfl, k1, .inl ⟨by omega, by rw [e6, T1], by omega, fun j hj => ?_, fun i hi => ?_⟩⟩
    · rw [p3 j (by omega), fr_gi s2 (rg_no rfl j)]
      exact T2 j (by omega)
    · rw [e6, ← T1]
      exact p4 i hi
  · exact ⟨s1, _, rfl, k1, .inr ⟨by omega, rfl, by rw [e1]; exact I.2.1⟩⟩
theorem c9_feed {h : pm_H} {x a b c d e : Int32} (I : IVh h) (J : half_feed h x a b c d e) : Sp 100 247 h [.ref 77, .int a, .int b, .int c, .int d, .int e] (fun h' r => IVR h' ∧ r = some (.int x)) := by
  refine Sp_le (by omega) (Sp_mono ?_ (Sp_and (top_all (as := [.ref 77, .int a, .int b, .int c, .int d, .int e]) q7 (by decide +kernel) I ⟨rfl, aI _, aI _, aI _, aI _, aI _, trivial⟩) (sp_feed9 (dd := 0) I.1)))
  rintro h' r ⟨⟨s1, s2, -⟩, s3⟩
  obtain ⟨k0, J⟩ := J
  have k1 : KP h' := KP_fr s2 rfl k0
  have e11 : gn h' 1 1 = gn h 1 1 := fr_gn s2 rfl
  rcases s3 with ⟨n1, e1, rfl⟩ | ⟨n1, e1, rfl⟩
  · rcases J with ⟨j1, rfl, j3, j4, j5⟩ | ⟨j1, -, -⟩
    · have hb : HH (pt h 77 0 (nJ 0)) := HH_ptn I.1 rfl (by omega) (by omega) (by omega)
      have eb : gn (pt h 77 0 (nJ 0)) 77 6 = gn h 77 6 := gn_ne (by omega)
      obtain ⟨p1, p2, p3, p4, p5⟩ := rd20_ok (v1 := a) (v2 := b) (v3 := c) (v4 := d) (v5 := e) isT9 hb (by omega)
      rw [← e1] at p2 p3 p4
      refine ⟨⟨s1, ⟨by omega, fun j hj => ?_⟩, k1⟩, rfl⟩
      rw [e11] at hj
      rw [fr_gi s2 (rg_no rfl j)]
      by_cases hj2 : j < gn h 77 6
      · rw [j4 j hj2, p3 j (by omega)]
        exact (gi_ne (by omega)).symm
      · have h5 := j5 (j - gn h 77 6) (by omega)
        have h4 := p4 (j - gn h 77 6) (by omega)
        rw [eb] at h4
        rw [show gn h 77 6 + (j - gn h 77 6) = j by omega] at h5 h4
        rw [h5, h4]
    · exact absurd n1 j1
  · rcases J with ⟨j1, -⟩ | ⟨j1, rfl, j3⟩
    · exact absurd j1 n1
    · exact ⟨⟨s1, TP_fr (M := [(77, 0, 0)]) (by rw [e1]; exact fr_ptr (l := 0) (u := 0) rfl (by omega) (by omega) (fr_rf _ _)) rfl rfl rfl rfl j3, k1⟩, rfl⟩
noncomputable def half_end (h : pm_H) (x v : Int32) : Prop := KP h ∧ (((0 ≤ v.toInt ∧ v.toInt ≤ ((gn h 77 6 : Nat) : Int)) ∧ x = v ∧ gn h 1 1 = v.toInt.toNat ∧ ∀ j, j < gn h 77 6 → gi h 2 j = gi h 82 j) ∨ (¬ (0 ≤ v.toInt ∧ v.toInt ≤ ((gn h 77 6 : Nat) : Int)) ∧ x = -1 ∧ TP h))
theorem c8_end {h : pm_H} {v : Int32} (I : IVR h) : Sp 100 101 h [.ref 0, .int v] (fun h' r => IVh h' ∧ ∃ x : Int32, r = some (.int x) ∧ half_end h' x v) := by
  refine Sp_le (by omega) (Sp_mono ?_ (Sp_and (top_all (as := [.ref 0, .int v]) q8 (by decide +kernel) I.1 ⟨rfl, aI _, trivial⟩) (sp_end8 (d := 0) I.1.1)))
  rintro h' r ⟨⟨s1, s2, -⟩, s3⟩
  obtain ⟨T1, T2⟩ := I.2.1
  have e6 : gn h' 77 6 = gn h 77 6 := fr_gn s2 rfl
  have k1 : KP h' := KP_fr s2 rfl I.2.2
  have hn5 : gn h 1 1 ≤ 500 := gn_hi I.1.1 rfl (by decide)
  rcases s3 with ⟨n1, e1, rfl⟩ | ⟨n1, e1, rfl⟩
  · refine ⟨s1, _, rfl, k1, .inl ⟨⟨n1.1, by have := n1.2; omega⟩, rfl, ?_, fun j hj => ?_⟩⟩
    · unfold gn
      rw [e1, gi_pt I.1.1 (q := (0, 500)) rfl n1.1 (by have := n1.2; show _ ≤ (500 : Int); omega)]
    · rw [fr_gi s2 (rg_no rfl j), fr_gi s2 (rg_no rfl j)]
      exact T2 j (by omega)
  · refine ⟨s1, _, rfl, k1, .inr ⟨fun q => n1 ⟨q.1, by have := q.2; omega⟩, rfl, by rw [e1]; exact I.2.1⟩⟩
theorem c9_end {h : pm_H} {x v : Int32} (I : IVh h) (J : half_end h x v) : Sp 100 241 h [.ref 77, .int v] (fun h' r => IVR h' ∧ r = some (.int x)) := by
  refine Sp_le (by omega) (Sp_mono ?_ (Sp_and (top_all (as := [.ref 77, .int v]) q10 (by decide +kernel) I ⟨rfl, aI _, trivial⟩) (sp_end9 (d := 0) I.1)))
  rintro h' r ⟨⟨s1, s2, -⟩, s3⟩
  obtain ⟨k0, J⟩ := J
  have k1 : KP h' := KP_fr s2 rfl k0
  have e11 : gn h' 1 1 = gn h 1 1 := fr_gn s2 rfl
  have hn5 : gn h 77 6 ≤ 500 := gn_hi I.1 rfl (by decide)
  rcases s3 with ⟨n1, e1, rfl⟩ | ⟨n1, e1, rfl⟩
  · rcases J with ⟨j1, rfl, j3, j4⟩ | ⟨j1, -, -⟩
    · have hb : HH (pt h 77 0 (nJ 0)) := HH_ptn I.1 rfl (by omega) (by omega) (by omega)
      have e2 : gn h' 77 6 = x.toInt.toNat := by
        unfold gn
        rw [e1, gi_pt hb (q := (0, 500)) rfl n1.1 (by have := n1.2; show _ ≤ (500 : Int); omega)]
      refine ⟨⟨s1, ⟨by omega, fun j hj => ?_⟩, k1⟩, rfl⟩
      rw [fr_gi s2 (rg_no rfl j), fr_gi s2 (rg_no rfl j)]
      exact j4 j (by have := n1.2; omega)
    · exact absurd n1 j1
  · rcases J with ⟨j1, -⟩ | ⟨j1, rfl, j3⟩
    · exact absurd j1 n1
    · exact ⟨⟨s1, TP_fr (M := [(77, 0, 0)]) (by rw [e1]; exact fr_ptr (l := 0) (u := 0) rfl (by omega) (by omega) (fr_rf _ _)) rfl rfl rfl rfl j3, k1⟩, rfl⟩
noncomputable def half_street (h : pm_H) : Prop := gn h 1 1 = 0 ∧ KP h
theorem c8_street {h : pm_H} (I : IVR h) : Sp 100 185 h [.ref 0] (fun h' r => IVh h' ∧ ∃ x : Int32, r = some (.int x) ∧ half_street h') := by
  refine Sp_le (by omega) (Sp_mono ?_ (top_all (as := [.ref 0]) q106 (by decide +kernel) I.1 ⟨rfl, trivial⟩))
  rintro h' r ⟨s1, s2, C, hC, s3, s4⟩
  have e := List.mem_singleton.mp hC
  subst e
  obtain ⟨x, hx⟩ := rv_ci s4
  obtain ⟨y, y1, y2, y3⟩ := s3 ((1, 1), 0, 0) List.mem_cons_self
  refine ⟨s1, x, hx, ?_, KP_fr s2 rfl I.2.2⟩
  have y1 : ld h' 1 1 = some (.int y) := y1
  have y2 : (0 : Int) ≤ y.toInt := y2
  have y3 : y.toInt ≤ (0 : Int) := y3
  unfold gn gi
  rw [y1]
  show y.toInt.toNat = 0
  omega
theorem c9_street {h : pm_H} (I : IVh h) (J : half_street h) : Sp 100 354 h [.ref 77] (fun h' r => IVR h' ∧ ∃ x : Int32, r = some (.int x)) := by
  refine Sp_le (by omega) (Sp_mono ?_ (tv_street (d := 0) I.1 I.2.2))
  rintro h' r ⟨a1, a2, a3, a4, a5⟩
  have e11 : gn h' 1 1 = gn h 1 1 := fr_gn a2 rfl
  have j1 := J.1
  exact ⟨⟨IVh_fr (M := VMS) (by decide +kernel) a2 a1 I a3, ⟨by omega, fun j hj => by omega⟩, KP_fr a2 rfl J.2⟩, a5⟩
theorem sp_image8 {h : pm_H} {x : Int32} (I : IVh h) : Sp 20 121 h [.ref 0, .int x] (fun h' r => r = some (.int (imv x)) ∧ ∀ j, j < 3 → gi h' 52 j = if x = nJ j then 1 else gi h 52 j) := by
  refine Sp_of (d := 19) aiX8_image rfl rfl rfl ?_
  have L0 : pm_get (lv_args 0 [.ref 0, .int x]) 0 = some (.ref 0) := rfl
  have L1 : pm_get (lv_args 0 [.ref 0, .int x]) 1 = some (.int x) := rfl
  generalize lv_args 0 [.ref 0, .int x] = lv at L0 L1 ⊢
  refine E_il rfl L1 ?_
  by_cases hr : 0 ≤ x.toInt ∧ x.toInt ≤ 2
  · obtain ⟨k, hk, rfl⟩ := nJ_of2 (n := 2) hr.1 hr.2
    refine E_ifF rfl (decide_eq_false (nJ_lt0 (by omega))) ?_
    refine E_il rfl L1 ?_
    refine E_ci 3 rfl (by decide) ?_
    refine E_icT rfl (decide_eq_true ((nJ_lt (by omega) (by omega)).mpr (by omega))) ?_
    match k, hk with
    | 0, _ =>
      refine E_al rfl L0 ?_
      refine E_ogr rfl I.1 rfl (q := 24) rfl ?_
      refine E_il rfl L1 ?_
      refine E_aal rfl I.1 rfl (q := 25) rfl (by decide) ?_
      refine E_al rfl L0 ?_
      refine E_ogr rfl I.1 rfl (q := 15) rfl ?_
      refine E_call rfl (Sp_le (by omega) (Sp_sum (as := [.ref 25, .ref 15]) q904 I.1 ⟨rfl, rfl, trivial⟩ (fun _ hq => absurd hq List.not_mem_nil) (fun i hi => I.2.1 i (List.mem_of_elem_eq_true (List.all_eq_true.mp (show [41, 62].all (fun i => List.elem i CF) = true from rfl) i hi))))) (chkO (a := 25) I.1 rfl rfl rfl rfl (by show 0 ≤ 8; decide)) (fun h4 r4 => ?_)
      rintro ⟨hh4, fq4, C4, hC4, -, -, -, rv4⟩
      have e4 : r4 = none := by have e := List.mem_singleton.mp hC4; subst e; cases r4 with | none => rfl | some v => exact rv4.elim
      rw [e4]
      show Ends _ _ (25, lv, [], h4, 0, 0) _
      refine E_al rfl L0 ?_
      refine E_ogr rfl hh4 rfl (q := 52) rfl ?_
      refine E_il rfl L1 ?_
      refine E_ci 1 rfl (by decide) ?_
      refine E_zasA rfl hh4 rfl (by decide) ?_
      refine E_ci 0 rfl (by decide) ?_
      exact E_rti rfl ⟨by rw [imv_in hr]; rfl, kp_in hh4 rfl (by decide) (fun j => fr_gi fq4 (rg_no rfl j))⟩
    | 1, _ =>
      refine E_al rfl L0 ?_
      refine E_ogr rfl I.1 rfl (q := 24) rfl ?_
      refine E_il rfl L1 ?_
      refine E_aal rfl I.1 rfl (q := 34) rfl (by decide) ?_
      refine E_al rfl L0 ?_
      refine E_ogr rfl I.1 rfl (q := 15) rfl ?_
      refine E_call rfl (Sp_le (by omega) (Sp_sum (as := [.ref 34, .ref 15]) q903 I.1 ⟨rfl, rfl, trivial⟩ (fun _ hq => absurd hq List.not_mem_nil) (fun i hi => I.2.1 i (List.mem_of_elem_eq_true (List.all_eq_true.mp (show [41, 83].all (fun i => List.elem i CF) = true from rfl) i hi))))) (chkO (a := 34) I.1 rfl rfl rfl rfl (by show 0 ≤ 8; decide)) (fun h4 r4 => ?_)
      rintro ⟨hh4, fq4, C4, hC4, -, -, -, rv4⟩
      have e4 : r4 = none := by have e := List.mem_singleton.mp hC4; subst e; cases r4 with | none => rfl | some v => exact rv4.elim
      rw [e4]
      show Ends _ _ (25, lv, [], h4, 0, 0) _
      refine E_al rfl L0 ?_
      refine E_ogr rfl hh4 rfl (q := 52) rfl ?_
      refine E_il rfl L1 ?_
      refine E_ci 1 rfl (by decide) ?_
      refine E_zasA rfl hh4 rfl (by decide) ?_
      refine E_ci 0 rfl (by decide) ?_
      exact E_rti rfl ⟨by rw [imv_in hr]; rfl, kp_in hh4 rfl (by decide) (fun j => fr_gi fq4 (rg_no rfl j))⟩
    | 2, _ =>
      refine E_al rfl L0 ?_
      refine E_ogr rfl I.1 rfl (q := 24) rfl ?_
      refine E_il rfl L1 ?_
      refine E_aal rfl I.1 rfl (q := 43) rfl (by decide) ?_
      refine E_al rfl L0 ?_
      refine E_ogr rfl I.1 rfl (q := 15) rfl ?_
      refine E_call rfl (Sp_le (by omega) (Sp_sum (as := [.ref 43, .ref 15]) q902 I.1 ⟨rfl, rfl, trivial⟩ (fun _ hq => absurd hq List.not_mem_nil) (fun i hi => I.2.1 i (List.mem_of_elem_eq_true (List.all_eq_true.mp (show [41, 104].all (fun i => List.elem i CF) = true from rfl) i hi))))) (chkO (a := 43) I.1 rfl rfl rfl rfl (by show 0 ≤ 8; decide)) (fun h4 r4 => ?_)
      rintro ⟨hh4, fq4, C4, hC4, -, -, -, rv4⟩
      have e4 : r4 = none := by have e := List.mem_singleton.mp hC4; subst e; cases r4 with | none => rfl | some v => exact rv4.elim
      rw [e4]
      show Ends _ _ (25, lv, [], h4, 0, 0) _
      refine E_al rfl L0 ?_
      refine E_ogr rfl hh4 rfl (q := 52) rfl ?_
      refine E_il rfl L1 ?_
      refine E_ci 1 rfl (by decide) ?_
      refine E_zasA rfl hh4 rfl (by decide) ?_
      refine E_ci 0 rfl (by decide) ?_
      exact E_rti rfl ⟨by rw [imv_in hr]; rfl, kp_in hh4 rfl (by decide) (fun j => fr_gi fq4 (rg_no rfl j))⟩
  · have z0 : (0 : Int32).toInt = 0 := rfl
    by_cases h0 : x < 0
    · refine E_ifT rfl (decide_eq_true h0) ?_
      refine E_c rfl ?_
      exact E_rti rfl ⟨by rw [imv_no hr], kp_out hr (fun j => rfl)⟩
    · refine E_ifF rfl (decide_eq_false h0) ?_
      refine E_il rfl L1 ?_
      refine E_ci 3 rfl (by decide) ?_
      refine E_icF rfl (decide_eq_false (fun q => hr ?_)) ?_
      · have q1 := Int32.lt_iff_toInt_lt.mp q
        rw [nJ_toInt (by omega)] at q1
        have q2 : ¬ x.toInt < (0 : Int32).toInt := fun z => h0 (Int32.lt_iff_toInt_lt.mpr z)
        omega
      · refine E_c rfl ?_
        exact E_rti rfl ⟨by rw [imv_no hr], kp_out hr (fun j => rfl)⟩
theorem sp_back8 {h : pm_H} {x : Int32} (I : IVh h) : Sp 20 82 h [.ref 0, .int x] (fun h' r => r = some (.int (bkv 52 h x))) := by
  refine Sp_of (d := 19) aiX8_back rfl rfl rfl ?_
  have L0 : pm_get (lv_args 0 [.ref 0, .int x]) 0 = some (.ref 0) := rfl
  have L1 : pm_get (lv_args 0 [.ref 0, .int x]) 1 = some (.int x) := rfl
  generalize lv_args 0 [.ref 0, .int x] = lv at L0 L1 ⊢
  refine E_il rfl L1 ?_
  by_cases hr : 0 ≤ x.toInt ∧ x.toInt ≤ 2
  · obtain ⟨k, hk, rfl⟩ := nJ_of2 (n := 2) hr.1 hr.2
    refine E_ifF rfl (decide_eq_false (nJ_lt0 (by omega))) ?_
    refine E_il rfl L1 ?_
    refine E_ci 3 rfl (by decide) ?_
    refine E_icT rfl (decide_eq_true ((nJ_lt (by omega) (by omega)).mpr (by omega))) ?_
    refine E_al rfl L0 ?_
    refine E_ogr rfl I.1 rfl (q := 52) rfl ?_
    refine E_il rfl L1 ?_
    refine E_zalA rfl I.1 rfl (by omega) ?_
    by_cases hz : gi h 52 k = 0
    · refine E_ifF rfl (decide_eq_false (fun q => q hz)) ?_
      refine E_c rfl ?_
      exact E_rti rfl (by rw [bkv_6 hk hz])
    · refine E_ifT rfl (decide_eq_true hz) ?_
      have hb := bkv_0 hk hz
      match k, hk, hb with
      | 0, _, hb =>
        refine E_al rfl L0 ?_
        refine E_ogr rfl I.1 rfl (q := 15) rfl ?_
        refine E_al rfl L0 ?_
        refine E_ogr rfl I.1 rfl (q := 24) rfl ?_
        refine E_il rfl L1 ?_
        refine E_aal rfl I.1 rfl (q := 25) rfl (by decide) ?_
        refine E_call rfl (Sp_le (by omega) (Sp_sum (as := [.ref 15, .ref 25]) q926 I.1 ⟨rfl, rfl, trivial⟩ (fun _ hq => absurd hq List.not_mem_nil) (fun i hi => I.2.1 i (List.mem_of_elem_eq_true (List.all_eq_true.mp (show [41, 62].all (fun i => List.elem i CF) = true from rfl) i hi))))) (chkO (a := 15) I.1 rfl rfl rfl rfl (by show 0 ≤ 8; decide)) (fun h4 r4 => ?_)
        rintro ⟨hh4, fq4, C4, hC4, -, -, -, rv4⟩
        have e4 : r4 = none := by have e := List.mem_singleton.mp hC4; subst e; cases r4 with | none => rfl | some v => exact rv4.elim
        rw [e4]
        show Ends _ _ (37, lv, [], h4, 0, 0) _
        refine E_ci 0 rfl (by decide) ?_
        exact E_rti rfl (by rw [hb]; rfl)
      | 1, _, hb =>
        refine E_al rfl L0 ?_
        refine E_ogr rfl I.1 rfl (q := 15) rfl ?_
        refine E_al rfl L0 ?_
        refine E_ogr rfl I.1 rfl (q := 24) rfl ?_
        refine E_il rfl L1 ?_
        refine E_aal rfl I.1 rfl (q := 34) rfl (by decide) ?_
        refine E_call rfl (Sp_le (by omega) (Sp_sum (as := [.ref 15, .ref 34]) q925 I.1 ⟨rfl, rfl, trivial⟩ (fun _ hq => absurd hq List.not_mem_nil) (fun i hi => I.2.1 i (List.mem_of_elem_eq_true (List.all_eq_true.mp (show [41, 83].all (fun i => List.elem i CF) = true from rfl) i hi))))) (chkO (a := 15) I.1 rfl rfl rfl rfl (by show 0 ≤ 8; decide)) (fun h4 r4 => ?_)
        rintro ⟨hh4, fq4, C4, hC4, -, -, -, rv4⟩
        have e4 : r4 = none := by have e := List.mem_singleton.mp hC4; subst e; cases r4 with | none => rfl | some v => exact rv4.elim
        rw [e4]
        show Ends _ _ (37, lv, [], h4, 0, 0) _
        refine E_ci 0 rfl (by decide) ?_
        exact E_rti rfl (by rw [hb]; rfl)
      | 2, _, hb =>
        refine E_al rfl L0 ?_
        refine E_ogr rfl I.1 rfl (q := 15) rfl ?_
        refine E_al rfl L0 ?_
        refine E_ogr rfl I.1 rfl (q := 24) rfl ?_
        refine E_il rfl L1 ?_
        refine E_aal rfl I.1 rfl (q := 43) rfl (by decide) ?_
        refine E_call rfl (Sp_le (by omega) (Sp_sum (as := [.ref 15, .ref 43]) q924 I.1 ⟨rfl, rfl, trivial⟩ (fun _ hq => absurd hq List.not_mem_nil) (fun i hi => I.2.1 i (List.mem_of_elem_eq_true (List.all_eq_true.mp (show [41, 104].all (fun i => List.elem i CF) = true from rfl) i hi))))) (chkO (a := 15) I.1 rfl rfl rfl rfl (by show 0 ≤ 8; decide)) (fun h4 r4 => ?_)
        rintro ⟨hh4, fq4, C4, hC4, -, -, -, rv4⟩
        have e4 : r4 = none := by have e := List.mem_singleton.mp hC4; subst e; cases r4 with | none => rfl | some v => exact rv4.elim
        rw [e4]
        show Ends _ _ (37, lv, [], h4, 0, 0) _
        refine E_ci 0 rfl (by decide) ?_
        exact E_rti rfl (by rw [hb]; rfl)
  · have z0 : (0 : Int32).toInt = 0 := rfl
    by_cases h0 : x < 0
    · refine E_ifT rfl (decide_eq_true h0) ?_
      refine E_c rfl ?_
      exact E_rti rfl (by rw [bkv_no hr])
    · refine E_ifF rfl (decide_eq_false h0) ?_
      refine E_il rfl L1 ?_
      refine E_ci 3 rfl (by decide) ?_
      refine E_icF rfl (decide_eq_false (fun q => hr ?_)) ?_
      · have q1 := Int32.lt_iff_toInt_lt.mp q
        rw [nJ_toInt (by omega)] at q1
        have q2 : ¬ x.toInt < (0 : Int32).toInt := fun z => h0 (Int32.lt_iff_toInt_lt.mpr z)
        omega
      · refine E_c rfl ?_
        exact E_rti rfl (by rw [bkv_no hr])
noncomputable def half_image (h : pm_H) (x v : Int32) : Prop := TP h ∧ x = imv v ∧ ∀ j, j < 3 → gi h 52 j = if v = nJ j then 1 else gi h 88 j
theorem c8_image {h : pm_H} {v : Int32} (I : IVR h) : Sp 100 121 h [.ref 0, .int v] (fun h' r => IVh h' ∧ ∃ x : Int32, r = some (.int x) ∧ half_image h' x v) := by
  refine Sp_le (by omega) (Sp_mono ?_ (Sp_and (top_all (as := [.ref 0, .int v]) q905 (by decide +kernel) I.1 ⟨rfl, aI _, trivial⟩) (sp_image8 I.1)))
  rintro h' r ⟨⟨s1, s2, -⟩, rfl, s3⟩
  refine ⟨s1, _, rfl, TP_frB s2 rfl I.2.1, rfl, fun j hj => ?_⟩
  rw [s3 j hj, I.2.2 j hj, fr_gi s2 (rg_no rfl j)]
theorem c9_image {h : pm_H} {x v : Int32} (I : IVh h) (J : half_image h x v) : Sp 100 260 h [.ref 77, .int v] (fun h' r => IVR h' ∧ r = some (.int x)) := by
  refine Sp_le (by omega) (Sp_mono ?_ (tv_image (d := 0) I.1 I.2.2))
  rintro h' r ⟨a1, a2, a3, rfl, a5⟩
  obtain ⟨j1, rfl, j3⟩ := J
  refine ⟨⟨IVh_fr (M := VMI) (by decide +kernel) a2 a1 I a3, TP_frB a2 rfl j1, fun j hj => ?_⟩, rfl⟩
  rw [a5 j hj, fr_gi a2 (rg_no rfl j)]
  exact j3 j hj
theorem bkv_eq {A B : Nat} {h g : pm_H} {v : Int32} (e : ∀ j, j < 3 → gi h A j = gi g B j) : bkv A h v = bkv B g v := by
  unfold bkv
  by_cases q : 0 ≤ v.toInt ∧ v.toInt ≤ 2
  · rw [if_pos q, if_pos q, e _ (by omega)]
  · rw [if_neg q, if_neg q]
noncomputable def half_back (h : pm_H) (x v : Int32) : Prop := REL h ∧ x = bkv 88 h v
theorem c8_back {h : pm_H} {v : Int32} (I : IVR h) : Sp 100 82 h [.ref 0, .int v] (fun h' r => IVh h' ∧ ∃ x : Int32, r = some (.int x) ∧ half_back h' x v) := by
  refine Sp_le (by omega) (Sp_mono ?_ (Sp_and (top_all (as := [.ref 0, .int v]) q927 (by decide +kernel) I.1 ⟨rfl, aI _, trivial⟩) (sp_back8 I.1)))
  rintro h' r ⟨⟨s1, s2, -⟩, rfl⟩
  refine ⟨s1, _, rfl, REL_fr s2 rfl I.2, bkv_eq (fun j hj => ?_)⟩
  rw [fr_gi s2 (rg_no rfl j)]
  exact I.2.2 j hj
theorem c9_back {h : pm_H} {x v : Int32} (I : IVh h) (J : half_back h x v) : Sp 100 212 h [.ref 77, .int v] (fun h' r => IVR h' ∧ r = some (.int x)) := by
  refine Sp_le (by omega) (Sp_mono ?_ (tv_back (d := 0) I.1 I.2.2))
  rintro h' r ⟨a1, a2, a3, rfl⟩
  obtain ⟨j1, rfl⟩ := J
  exact ⟨⟨IVh_fr (M := VM) (by decide +kernel) a2 a1 I a3, REL_fr a2 rfl j1⟩, rfl⟩
theorem IVR_hp0 : IVR hp0 := ⟨IVh_hp0, ⟨rfl, fun j hj => absurd hj (Nat.not_lt_zero j)⟩, fun _ _ => rfl⟩
end
section
/-! by hand: the class's paste -/
theorem E_cpy {look : Nat → Option pm_I} {call : pm_Call} {Q : pm_H → Option Value → Prop} {pc n : Nat} {lv : List (Nat × Value)} {st : List Value} {h : pm_H} {z : Nat × Nat} {a0 a1 : Nat} {sp dp m : Int32} (h1 : look pc = some (.inl (s_copy n))) (hh : HH h) (c0 : hs0[a0]? = some (.inr (.inl 60))) (c1 : hs0[a1]? = some (.inr (.inl 60))) (k1 : 0 ≤ sp.toInt) (k2 : 0 ≤ dp.toInt) (k3 : 0 ≤ m.toInt) (k4 : sp.toInt + m.toInt ≤ 60) (k5 : dp.toInt + m.toInt ≤ 60) (hs : Nat.ble (pm_sz st) 8 = true) (kk : ∀ h', HH h' → fr_g [(a1, 0, 59)] h h' → Ends look call (n, lv, st, h', z) Q) : Ends look call (pc, lv, .int m :: .int dp :: .ref a1 :: .int sp :: .ref a0 :: st, h, z) Q := by
  obtain ⟨x, hx, hg⟩ := hs_at hh c0
  obtain ⟨y, hy, hk⟩ := hs_at hh c1
  match x, hx, hg, y, hy, hk with
  | .inl (t2, len2, .inr (.inl f)), hx, hg, .inl (t3, len3, .inr (.inl g)), hy, hk =>
    obtain ⟨rfl, rfl⟩ := hg
    obtain ⟨rfl, rfl⟩ := hk
    have z0 : (0 : Int32).toInt = 0 := rfl
    have n1 : ∀ w : Int32, 0 ≤ w.toInt → (!(decide (w < 0))) = true := fun w hw => by
      rw [decide_eq_false (fun q => by have := Int32.lt_iff_toInt_lt.mp q; omega)]; rfl
    have e1 : sp.toNatClampNeg = sp.toInt.toNat := rfl
    have e2 : dp.toNatClampNeg = dp.toInt.toNat := rfl
    have e3 : m.toNatClampNeg = m.toInt.toNat := rfl
    have b1 : Nat.ble (sp.toNatClampNeg + m.toNatClampNeg) 60 = true := Nat.ble_eq_true_of_le (by rw [e1, e3]; omega)
    have b2 : Nat.ble (dp.toNatClampNeg + m.toNatClampNeg) 60 = true := Nat.ble_eq_true_of_le (by rw [e2, e3]; omega)
    refine E_st h1 (σ' := (n, lv, st, h.set a1 (.inl (3, 60, .inr (.inl (va_cpy f g sp.toNatClampNeg dp.toNatClampNeg m.toNatClampNeg)))), z)) ?_ (kk _ (hs_set hh c1 ⟨rfl, rfl⟩) ?_)
    · simp only [s_copy, hx, hy, n1 sp k1, n1 dp k2, n1 m k3, b1, b2, hs, Bool.and_self, cond_true]
    · intro b j hbj
      by_cases e : b = a1
      · subst e
        have hj : ¬ j ≤ 59 := fun hj => by
          rw [rg_in_one (Nat.zero_le _) hj (List.mem_singleton_self _)] at hbj
          cases hbj
        have e9 : va_cpy f g sp.toNatClampNeg dp.toNatClampNeg m.toNatClampNeg j = g j := by
          unfold va_cpy
          rw [if_neg (by rw [e2, e3]; omega)]
        unfold ld
        rw [List.getElem?_set_self (List.getElem?_eq_some_iff.mp hy).1, hy]
        dsimp only
        rw [e9]
      · unfold ld
        rw [List.getElem?_set_ne (Ne.symm e)]
/-- so many numbers from there on lie in the slot -/
noncomputable def hol (h : pm_H) (a : Nat) (f n : Int32) : Prop := 0 ≤ f.toInt ∧ 0 ≤ n.toInt ∧ f.toInt + n.toInt ≤ (gi h a 3).toInt
section PS
variable {h : pm_H} {d a c k : Nat} {x : Int32}
theorem sp_holds {f n : Int32} (hh : HH h) (S : isS a c) : Sp (d + 1) 45 h [.ref a, .int f, .int n] (fun h' r => h' = h ∧ ((hol h a f n ∧ r = some (.int 1)) ∨ (¬ hol h a f n ∧ r = some (.int 0)))) := by
  obtain ⟨S1, S2, S3, S4, S5, S6⟩ := S
  refine Sp_of aiX4_holds rfl rfl rfl ?_
  have L0 : pm_get (lv_args 0 [.ref a, .int f, .int n]) 0 = some (.ref a) := rfl
  have L1 : pm_get (lv_args 0 [.ref a, .int f, .int n]) 1 = some (.int f) := rfl
  have L2 : pm_get (lv_args 0 [.ref a, .int f, .int n]) 2 = some (.int n) := rfl
  generalize lv_args 0 [.ref a, .int f, .int n] = lv at L0 L1 L2 ⊢
  have z0 : (0 : Int32).toInt = 0 := rfl
  have no : ∀ {lv : List (Nat × Value)}, ¬ hol h a f n → Ends (pm_at tX4_holds) (pm_Rt pm_P d) (22, lv, [], h, 0, 0) (fun h' r => h' = h ∧ ((hol h a f n ∧ r = some (.int 1)) ∨ (¬ hol h a f n ∧ r = some (.int 0)))) := by
    intro lv hn
    refine E_ci 0 rfl (by decide) ?_
    exact E_rtz rfl (.inl rfl) ⟨rfl, .inr ⟨hn, rfl⟩⟩
  refine E_il rfl L1 ?_
  by_cases b1 : f < 0
  · have q := Int32.lt_iff_toInt_lt.mp b1
    refine E_ifT rfl (decide_eq_true b1) ?_
    exact no (fun z => by have := z.1; omega)
  · have q1 : ¬ f.toInt < (0 : Int32).toInt := fun z => b1 (Int32.lt_iff_toInt_lt.mpr z)
    refine E_ifF rfl (decide_eq_false b1) ?_
    refine E_il rfl L2 ?_
    by_cases b2 : n < 0
    · have q := Int32.lt_iff_toInt_lt.mp b2
      refine E_ifT rfl (decide_eq_true b2) ?_
      exact no (fun z => by have := z.2.1; omega)
    · have q2 : ¬ n.toInt < (0 : Int32).toInt := fun z => b2 (Int32.lt_iff_toInt_lt.mpr z)
      refine E_ifF rfl (decide_eq_false b2) ?_
      refine E_il rfl L1 ?_
      refine E_al rfl L0 ?_
      refine E_ogf rfl hh S1 S6 rfl ?_
      refine E_il rfl L2 ?_
      refine E_bin rfl rfl ?_
      have g := (ld_gi hh S6).2
      dsimp only at g
      have hn := ai_hi n
      have es : (gi h a 3 - n).toInt = (gi h a 3).toInt - n.toInt := by
        rw [Int32.toInt_sub]
        exact Int.bmod_eq_of_le (by omega) (by omega)
      by_cases b3 : gi h a 3 - n < f
      · have q := Int32.lt_iff_toInt_lt.mp b3
        refine E_icT rfl (decide_eq_true b3) ?_
        exact no (fun z => by have := z.2.2; omega)
      · have q3 : ¬ (gi h a 3 - n).toInt < f.toInt := fun z => b3 (Int32.lt_iff_toInt_lt.mpr z)
        refine E_icF rfl (decide_eq_false b3) ?_
        refine E_ci 1 rfl (by decide) ?_
        refine E_goto rfl ?_
        exact E_rtz rfl (.inr rfl) ⟨rfl, .inl ⟨⟨by omega, by omega, by omega⟩, rfl⟩⟩
/-- what paste answers -/
noncomputable def psv (h : pm_H) (a i b k n : Int32) (r : Int32) : Prop :=
  (¬ ((0 ≤ a.toInt ∧ a.toInt ≤ 3) ∧ 0 ≤ b.toInt ∧ b.toInt ≤ 3) ∧ r = -2) ∨ ∃ s t, s < 4 ∧ t < 4 ∧ a = nJ s ∧ b = nJ t ∧
    (((gi h (54 + 2 * s) 1 = 0 ∨ gi h (54 + 2 * t) 1 = 0) ∧ r = -6) ∨ (¬ (gi h (54 + 2 * s) 1 = 0 ∨ gi h (54 + 2 * t) 1 = 0) ∧
      ((¬ gi h (54 + 2 * s) 2 = gi h (54 + 2 * t) 2 ∧ r = -8) ∨ (gi h (54 + 2 * s) 2 = gi h (54 + 2 * t) 2 ∧
        ((¬ (hol h (54 + 2 * s) i n ∧ hol h (54 + 2 * t) k n) ∧ r = -7) ∨ ((hol h (54 + 2 * s) i n ∧ hol h (54 + 2 * t) k n) ∧ r = 0))))))
noncomputable def PM : List Rng := [(55, 0, 59), (57, 0, 59), (59, 0, 59), (61, 0, 59)]
theorem PM_at {h h' : pm_H} : ∀ t, t < 4 → fr_g [(55 + 2 * t, 0, 59)] h h' → fr_g PM h h'
  | 0, _, hf => fr_wk rfl hf
  | 1, _, hf => fr_wk rfl hf
  | 2, _, hf => fr_wk rfl hf
  | 3, _, hf => fr_wk rfl hf
  | s + 4, hs, _ => absurd hs (by omega)
noncomputable def PQ (h : pm_H) (a i b k n : Int32) (h' : pm_H) (r : Option Value) : Prop := HH h' ∧ fr_g PM h h' ∧ ∃ x : Int32, r = some (.int x) ∧ psv h a i b k n x
theorem sp_paste8 {x i y j n : Int32} (hh : HH h) : Sp (d + 2) 158 h [.ref 0, .int x, .int i, .int y, .int j, .int n] (PQ h x i y j n) := by
  refine Sp_of aiX8_paste rfl rfl rfl ?_
  have L0 : pm_get (lv_args 0 [.ref 0, .int x, .int i, .int y, .int j, .int n]) 0 = some (.ref 0) := rfl
  have L1 : pm_get (lv_args 0 [.ref 0, .int x, .int i, .int y, .int j, .int n]) 1 = some (.int x) := rfl
  have L2 : pm_get (lv_args 0 [.ref 0, .int x, .int i, .int y, .int j, .int n]) 2 = some (.int i) := rfl
  have L3 : pm_get (lv_args 0 [.ref 0, .int x, .int i, .int y, .int j, .int n]) 3 = some (.int y) := rfl
  have L4 : pm_get (lv_args 0 [.ref 0, .int x, .int i, .int y, .int j, .int n]) 4 = some (.int j) := rfl
  have L5 : pm_get (lv_args 0 [.ref 0, .int x, .int i, .int y, .int j, .int n]) 5 = some (.int n) := rfl
  generalize lv_args 0 [.ref 0, .int x, .int i, .int y, .int j, .int n] = lv at L0 L1 L2 L3 L4 L5 ⊢
  have no : ∀ {lv : List (Nat × Value)}, ¬ ((0 ≤ x.toInt ∧ x.toInt ≤ 3) ∧ 0 ≤ y.toInt ∧ y.toInt ≤ 3) → Ends (pm_at tX8_paste) (pm_Rt pm_P (d + 1)) (14, lv, [], h, 0, 0) (PQ h x i y j n) := by
    intro lv hn
    refine E_c rfl ?_
    exact E_rti rfl ⟨hh, fr_rf _ _, _, rfl, .inl ⟨hn, rfl⟩⟩
  refine E_il rfl L1 ?_
  refine E_call rfl (sp_isSlot8 (d := d)) (chkS rfl (by show 0 ≤ 8; decide)) (fun h1 r1 => ?_)
  rintro ⟨e1, rv⟩
  rw [e1]
  rcases rv with ⟨a0, a3, hr⟩ | ⟨an, hr⟩
  · rw [hr]
    refine E_ifF rfl (by decide) ?_
    refine E_il rfl L3 ?_
    refine E_call rfl (sp_isSlot8 (d := d)) (chkS rfl (by show 0 ≤ 8; decide)) (fun h2 r2 => ?_)
    rintro ⟨e2, rw2⟩
    rw [e2]
    rcases rw2 with ⟨c0, c3, hr2⟩ | ⟨cn, hr2⟩
    · rw [hr2]
      refine E_ifT rfl (by decide) ?_
      obtain ⟨s, hs, rfl⟩ : ∃ s, s < 4 ∧ x = nJ s := ⟨x.toInt.toNat, by omega, nJ_of a0⟩
      obtain ⟨t, ht, rfl⟩ : ∃ s, s < 4 ∧ y = nJ s := ⟨y.toInt.toNat, by omega, nJ_of c0⟩
      obtain ⟨S1, S2, S3, S4, S5, S6⟩ := isS_at s hs
      obtain ⟨T1, T2, T3, T4, T5, T6⟩ := isS_at t ht
      have fin : ∀ {r : Int32}, (((gi h (54 + 2 * s) 1 = 0 ∨ gi h (54 + 2 * t) 1 = 0) ∧ r = -6) ∨ (¬ (gi h (54 + 2 * s) 1 = 0 ∨ gi h (54 + 2 * t) 1 = 0) ∧
      ((¬ gi h (54 + 2 * s) 2 = gi h (54 + 2 * t) 2 ∧ r = -8) ∨ (gi h (54 + 2 * s) 2 = gi h (54 + 2 * t) 2 ∧
        ((¬ (hol h (54 + 2 * s) i n ∧ hol h (54 + 2 * t) j n) ∧ r = -7) ∨ ((hol h (54 + 2 * s) i n ∧ hol h (54 + 2 * t) j n) ∧ r = 0)))))) → psv h (nJ s) i (nJ t) j n r := fun q => .inr ⟨s, t, hs, ht, rfl, rfl, q⟩
      refine E_al rfl L0 ?_
      refine E_ogr rfl hh rfl (q := 53) rfl ?_
      refine E_il rfl L1 ?_
      refine E_aal rfl hh rfl (slot_at s hs) (by decide) ?_
      refine E_asr rfl (fun lv1 M6 kp => ?_)
      have M0 := kp 0 _ (by decide) rfl L0
      have M2 := kp 2 _ (by decide) rfl L2
      have M3 := kp 3 _ (by decide) rfl L3
      have M4 := kp 4 _ (by decide) rfl L4
      have M5 := kp 5 _ (by decide) rfl L5
      refine E_al rfl M0 ?_
      refine E_ogr rfl hh rfl (q := 53) rfl ?_
      refine E_il rfl M3 ?_
      refine E_aal rfl hh rfl (slot_at t ht) (by decide) ?_
      refine E_asr rfl (fun lv2 N7 kp2 => ?_)
      have N2 := kp2 2 _ (by decide) rfl M2
      have N4 := kp2 4 _ (by decide) rfl M4
      have N5 := kp2 5 _ (by decide) rfl M5
      have N6 := kp2 6 _ (by decide) rfl M6
      refine E_al rfl N6 ?_
      refine E_ogf rfl hh S1 S4 rfl ?_
      by_cases b1 : gi h (54 + 2 * s) 1 = 0
      · refine E_ifT rfl (decide_eq_true b1) ?_
        refine E_c rfl ?_
        exact E_rti rfl ⟨hh, fr_rf _ _, _, rfl, fin (.inl ⟨.inl b1, rfl⟩)⟩
      refine E_ifF rfl (decide_eq_false b1) ?_
      refine E_al rfl N7 ?_
      refine E_ogf rfl hh T1 T4 rfl ?_
      by_cases b2 : gi h (54 + 2 * t) 1 = 0
      · refine E_ifF rfl (decide_eq_false (fun q => q b2)) ?_
        refine E_c rfl ?_
        exact E_rti rfl ⟨hh, fr_rf _ _, _, rfl, fin (.inl ⟨.inr b2, rfl⟩)⟩
      refine E_ifT rfl (decide_eq_true b2) ?_
      have b12 : ¬ (gi h (54 + 2 * s) 1 = 0 ∨ gi h (54 + 2 * t) 1 = 0) := fun q => q.elim b1 b2
      refine E_al rfl N6 ?_
      refine E_ogf rfl hh S1 S5 rfl ?_
      refine E_al rfl N7 ?_
      refine E_ogf rfl hh T1 T5 rfl ?_
      by_cases b3 : gi h (54 + 2 * s) 2 = gi h (54 + 2 * t) 2
      · refine E_icT rfl (decide_eq_true b3) ?_
        have fin7 : ∀ {lv : List (Nat × Value)}, ¬ (hol h (54 + 2 * s) i n ∧ hol h (54 + 2 * t) j n) → Ends (pm_at tX8_paste) (pm_Rt pm_P (d + 1)) (91, lv, [], h, 0, 0) (PQ h (nJ s) i (nJ t) j n) := by
          intro lv hn
          refine E_c rfl ?_
          exact E_rti rfl ⟨hh, fr_rf _ _, _, rfl, fin (.inr ⟨b12, .inr ⟨b3, .inl ⟨hn, rfl⟩⟩⟩)⟩
        refine E_al rfl N6 ?_
        refine E_il rfl N2 ?_
        refine E_il rfl N5 ?_
        refine E_call rfl (sp_holds (d := d) hh (isS_at s hs)) (chkO (a := 54 + 2 * s) hh S1 rfl rfl rfl (by show 0 ≤ 8; decide)) (fun h3 r3 => ?_)
        rintro ⟨e3, rw3⟩
        rw [e3]
        rcases rw3 with ⟨o3, hr3⟩ | ⟨o3, hr3⟩
        · rw [hr3]
          refine E_ifF rfl (by decide) ?_
          refine E_al rfl N7 ?_
          refine E_il rfl N4 ?_
          refine E_il rfl N5 ?_
          refine E_call rfl (sp_holds (d := d) hh (isS_at t ht)) (chkO (a := 54 + 2 * t) hh T1 rfl rfl rfl (by show 0 ≤ 8; decide)) (fun h4 r4 => ?_)
          rintro ⟨e4, rw4⟩
          rw [e4]
          rcases rw4 with ⟨o4, hr4⟩ | ⟨o4, hr4⟩
          · rw [hr4]
            refine E_ifT rfl (by decide) ?_
            have g6 := (ld_gi hh S6).2
            have t6 := (ld_gi hh T6).2
            dsimp only at g6 t6
            have u1 := o3.2.2
            have u2 := o4.2.2
            refine E_al rfl N6 ?_
            refine E_ogr rfl hh S1 S2 ?_
            refine E_il rfl N2 ?_
            refine E_al rfl N7 ?_
            refine E_ogr rfl hh T1 T2 ?_
            refine E_il rfl N4 ?_
            refine E_il rfl N5 ?_
            refine E_cpy rfl hh S3 T3 o3.1 o4.1 o3.2.1 (by omega) (by omega) rfl (fun h5 hh5 fr5 => ?_)
            refine E_ci 0 rfl (by decide) ?_
            exact E_rti rfl ⟨hh5, PM_at t ht fr5, _, rfl, fin (.inr ⟨b12, .inr ⟨b3, .inr ⟨⟨o3, o4⟩, rfl⟩⟩⟩)⟩
          · rw [hr4]
            refine E_ifF rfl (by decide) ?_
            exact fin7 (fun q => o4 q.2)
        · rw [hr3]
          refine E_ifT rfl (by decide) ?_
          exact fin7 (fun q => o3 q.1)
      · refine E_icF rfl (decide_eq_false b3) ?_
        refine E_c rfl ?_
        exact E_rti rfl ⟨hh, fr_rf _ _, _, rfl, fin (.inr ⟨b12, .inl ⟨b3, rfl⟩⟩)⟩
    · rw [hr2]
      refine E_ifF rfl (by decide) ?_
      exact no (fun q => cn q.2)
  · rw [hr]
    refine E_ifT rfl (by decide) ?_
    exact no (fun q => an q.1)
end PS
theorem top_PQ {h : pm_H} {x i y j n : Int32} (I : IVh h) : Sp 2 158 h [.ref 0, .int x, .int i, .int y, .int j, .int n] (fun h' r => IVh h' ∧ fr_g PM h h' ∧ ∃ x : Int32, r = some (.int x)) := by
  refine Sp_mono ?_ (sp_paste8 (d := 0) I.1)
  rintro h' r ⟨q1, q2, x, q3, -⟩
  exact ⟨IVh_fr (M := PM) (by decide +kernel) q2 q1 I (RV_fr I.1 rfl q2 I.2.2), q2, x, q3⟩
end
section
/-! row of class and reference by hand; the relation of the slots (wants t25, E_aal, t29, sp_isSlot) -/
/-- a slot begun anew -/
noncomputable def BQ (a c w n : Nat) (h h' : pm_H) (r : Option Value) : Prop := r = none ∧ HH h' ∧ fr_g [(a, 1, 3), (c, 0, 59)] h h' ∧ gi h' a 1 = 1 ∧ gi h' a 2 = nJ w ∧ gi h' a 3 = nJ n
theorem bg_loop {a c w n d : Nat} {h0 : pm_H} (hac : a ≠ c) (S : isS a c) (hn : n ≤ 60) (j : Nat) : ∀ {h : pm_H} {i : Nat} (lv : List (Nat × Value)), i + j = n → HH h → fr_g [(a, 1, 3), (c, 0, 59)] h0 h → gi h a 1 = 1 → gi h a 2 = nJ w → gi h a 3 = nJ n → pm_get lv 0 = some (.ref a) → pm_get lv 2 = some (.int (nJ n)) → pm_get lv 3 = some (.int (nJ i)) → Ends (pm_at tX4_begin) (pm_Rt pm_P d) (17, lv, [], h, 0, 0) (BQ a c w n h0) := by
  obtain ⟨S1, S2, S3, S4, S5, S6⟩ := S
  induction j with
  | zero =>
    intro h i lv hj hh hf g1 g2 g3 L0 L2 L3
    refine E_il rfl L3 ?_
    refine E_il rfl L2 ?_
    refine E_icT rfl (decide_eq_true ((nJ_le (by omega) (by omega)).mpr (by omega))) ?_
    exact E_ret rfl ⟨rfl, hh, hf, g1, g2, g3⟩
  | succ j ih =>
    intro h i lv hj hh hf g1 g2 g3 L0 L2 L3
    refine E_il rfl L3 ?_
    refine E_il rfl L2 ?_
    refine E_icF rfl (decide_eq_false (fun q => absurd ((nJ_le (by omega) (by omega)).mp q) (by omega))) ?_
    refine E_al rfl L0 ?_
    refine E_ogr rfl hh S1 S2 ?_
    refine E_il rfl L3 ?_
    refine E_c rfl ?_
    refine E_las rfl hh S3 (by omega) (by decide) (fun h1 hh1 f1 _ => ?_)
    have no : ∀ k, rg_in [(c, i, i)] a k = false := fun k => rg_no (by have e : Nat.beq c a = false := (by cases hq : Nat.beq c a with | false => rfl | true => exact absurd (Nat.eq_of_beq_eq_true hq).symm hac); simp [e]) k
    refine E_inc rfl L3 (nJ_inc _) (fun lv1 K3 kp => ?_)
    refine E_goto rfl ?_
    exact ih lv1 (by omega) hh1 (fr_trans hf (fr_one (l := 0) (u := 59) (by unfold rg_sub; simp) (Nat.zero_le _) (by omega) f1)) (by rw [fr_gi f1 (no 1)]; exact g1) (by rw [fr_gi f1 (no 2)]; exact g2) (by rw [fr_gi f1 (no 3)]; exact g3) (kp 0 _ (by decide) rfl L0) (kp 2 _ (by decide) rfl L2) K3
theorem sp_begin {h : pm_H} {a c w n d : Nat} (hac : a ≠ c) (S : isS a c) (hh : HH h) (hw : w ≤ 3) (hn : n ≤ 60) : Sp (d + 1) 44 h [.ref a, .int (nJ w), .int (nJ n)] (BQ a c w n h) := by
  have S0 := S
  obtain ⟨S1, S2, S3, S4, S5, S6⟩ := S
  refine Sp_of aiX4_begin rfl rfl rfl ?_
  have L0 : pm_get (lv_args 0 [.ref a, .int (nJ w), .int (nJ n)]) 0 = some (.ref a) := rfl
  have L1 : pm_get (lv_args 0 [.ref a, .int (nJ w), .int (nJ n)]) 1 = some (.int (nJ w)) := rfl
  have L2 : pm_get (lv_args 0 [.ref a, .int (nJ w), .int (nJ n)]) 2 = some (.int (nJ n)) := rfl
  generalize lv_args 0 [.ref a, .int (nJ w), .int (nJ n)] = lv at L0 L1 L2 ⊢
  refine E_al rfl L0 ?_
  refine E_c rfl ?_
  refine E_opT rfl rfl hh S1 S4 ?_
  have h1 : HH (pt h a 1 1) := HH_pt hh S4 (by decide) (by decide)
  refine E_al rfl L0 ?_
  refine E_il rfl L1 ?_
  refine E_opf rfl h1 S1 S5 ?_
  have h2 : HH (pt (pt h a 1 1) a 2 (nJ w)) := HH_ptn h1 S5 (by omega) (by omega) (by omega)
  refine E_al rfl L0 ?_
  refine E_il rfl L2 ?_
  refine E_opf rfl h2 S1 S6 ?_
  have h3 : HH (pt (pt (pt h a 1 1) a 2 (nJ w)) a 3 (nJ n)) := HH_ptn h2 S6 (by omega) (by omega) (by omega)
  refine E_ci 0 rfl (by decide) ?_
  refine E_is rfl (fun lv1 K3 kp => ?_)
  refine bg_loop hac S0 hn n (i := 0) lv1 (by omega) h3 ?_ ?_ ?_ ?_ (kp 0 _ (by decide) rfl L0) (kp 2 _ (by decide) rfl L2) K3
  · refine fr_ptr (l := 1) (u := 3) (by unfold rg_sub; simp) (by omega) (by omega) (fr_ptr (l := 1) (u := 3) (by unfold rg_sub; simp) (by omega) (by omega) (fr_ptr (l := 1) (u := 3) (by unfold rg_sub; simp) (by omega) (by omega) (fr_rf _ _)))
  · rw [gi_ne (by omega), gi_ne (by omega)]; exact gi_pt hh S4 (by decide) (by decide)
  · rw [gi_ne (by omega)]; exact gi_pt h1 S5 (by rw [nJ_toInt (by omega)]; show (0 : Int) ≤ _; omega) (by rw [nJ_toInt (by omega)]; show _ ≤ (3 : Int); omega)
  · exact gi_pt h2 S6 (by rw [nJ_toInt (by omega)]; show (0 : Int) ≤ _; omega) (by rw [nJ_toInt (by omega)]; show _ ≤ (60 : Int); omega)
/-- what row answers -/
noncomputable def rowv (a b c : Int32) : Int32 := if a.toInt < 0 ∨ 3 < a.toInt ∨ b.toInt < 0 ∨ 3 < b.toInt ∨ 60 < c.toInt then -2 else if c.toInt < 0 then -3 else 0
noncomputable def rin (a b c : Int32) : Prop := (0 ≤ a.toInt ∧ a.toInt ≤ 3) ∧ (0 ≤ b.toInt ∧ b.toInt ≤ 3) ∧ 0 ≤ c.toInt ∧ c.toInt ≤ 60
theorem rowv_2 {a b c : Int32} (q : a.toInt < 0 ∨ 3 < a.toInt ∨ b.toInt < 0 ∨ 3 < b.toInt ∨ 60 < c.toInt) : rowv a b c = -2 ∧ ¬ rin a b c := ⟨if_pos q, fun z => by obtain ⟨z1, z2, z3⟩ := z; omega⟩
theorem rowv_3 {a b c : Int32} (q : ¬ (a.toInt < 0 ∨ 3 < a.toInt ∨ b.toInt < 0 ∨ 3 < b.toInt ∨ 60 < c.toInt)) (q2 : c.toInt < 0) : rowv a b c = -3 ∧ ¬ rin a b c := ⟨(if_neg q).trans (if_pos q2), fun z => by obtain ⟨z1, z2, z3⟩ := z; omega⟩
theorem rowv_0 {a b c : Int32} (q : rin a b c) : rowv a b c = 0 := (if_neg (by obtain ⟨z1, z2, z3⟩ := q; omega)).trans (if_neg (by obtain ⟨z1, z2, z3⟩ := q; omega))
noncomputable def RQ8 (x y v : Int32) (h h' : pm_H) (r : Option Value) : Prop := r = some (.int (rowv x y v)) ∧ ((rin x y v ∧ HH h' ∧ ∃ s, s < 4 ∧ x = nJ s ∧ fr_g [(54 + 2 * s, 1, 3), (55 + 2 * s, 0, 59)] h h' ∧ gi h' (54 + 2 * s) 1 = 1 ∧ gi h' (54 + 2 * s) 2 = y ∧ gi h' (54 + 2 * s) 3 = v) ∨ (¬ rin x y v ∧ h' = h))
theorem sp_row8 {h : pm_H} {d : Nat} {x y v : Int32} (hh : HH h) : Sp (d + 2) 171 h [.ref 0, .int x, .int y, .int v] (RQ8 x y v h) := by
  refine Sp_of aiX8_row rfl rfl rfl ?_
  have L0 : pm_get (lv_args 0 [.ref 0, .int x, .int y, .int v]) 0 = some (.ref 0) := rfl
  have L1 : pm_get (lv_args 0 [.ref 0, .int x, .int y, .int v]) 1 = some (.int x) := rfl
  have L2 : pm_get (lv_args 0 [.ref 0, .int x, .int y, .int v]) 2 = some (.int y) := rfl
  have L3 : pm_get (lv_args 0 [.ref 0, .int x, .int y, .int v]) 3 = some (.int v) := rfl
  generalize lv_args 0 [.ref 0, .int x, .int y, .int v] = lv at L0 L1 L2 L3 ⊢
  have z0 : (0 : Int32).toInt = 0 := rfl
  have no : (x.toInt < 0 ∨ 3 < x.toInt ∨ y.toInt < 0 ∨ 3 < y.toInt ∨ 60 < v.toInt) → Ends (pm_at tX8_row) (pm_Rt pm_P (d + 1)) (22, lv, [], h, 0, 0) (RQ8 x y v h) := by
    intro q
    refine E_c rfl ?_
    exact E_rti rfl ⟨by rw [(rowv_2 q).1], .inr ⟨(rowv_2 q).2, rfl⟩⟩
  refine E_il rfl L1 ?_
  refine E_call rfl (sp_isSlot8 (d := d)) (chkS rfl (by show 0 ≤ 8; decide)) (fun h1 r1 => ?_)
  rintro ⟨e1, rv⟩
  rw [e1]
  rcases rv with ⟨a0, a3, hr⟩ | ⟨an, hr⟩
  · rw [hr]
    refine E_ifF rfl (by decide) ?_
    refine E_il rfl L2 ?_
    by_cases b1 : y < 0
    · have q := Int32.lt_iff_toInt_lt.mp b1
      refine E_ifT rfl (decide_eq_true b1) ?_
      exact no (by omega)
    have q1 : ¬ y.toInt < (0 : Int32).toInt := fun w => b1 (Int32.lt_iff_toInt_lt.mpr w)
    refine E_ifF rfl (decide_eq_false b1) ?_
    refine E_il rfl L2 ?_
    refine E_ci 4 rfl (by decide) ?_
    by_cases b2 : nJ 4 ≤ y
    · have q := Int32.le_iff_toInt_le.mp b2
      rw [nJ_toInt (by omega)] at q
      refine E_icT rfl (decide_eq_true b2) ?_
      exact no (by omega)
    have q2 : ¬ (nJ 4).toInt ≤ y.toInt := fun w => b2 (Int32.le_iff_toInt_le.mpr w)
    rw [nJ_toInt (by omega)] at q2
    refine E_icF rfl (decide_eq_false b2) ?_
    refine E_il rfl L3 ?_
    refine E_ci 60 rfl (by decide) ?_
    by_cases b3 : v ≤ nJ 60
    · have q3 := Int32.le_iff_toInt_le.mp b3
      rw [nJ_toInt (by omega)] at q3
      refine E_icT rfl (decide_eq_true b3) ?_
      refine E_il rfl L3 ?_
      by_cases b4 : 0 ≤ v
      · have q4 := Int32.le_iff_toInt_le.mp b4
        refine E_ifT rfl (decide_eq_true b4) ?_
        have hr : rin x y v := ⟨⟨a0, a3⟩, ⟨by omega, by omega⟩, by omega, by omega⟩
        obtain ⟨s, hs, rfl⟩ : ∃ s, s < 4 ∧ x = nJ s := ⟨x.toInt.toNat, by omega, nJ_of a0⟩
        obtain ⟨w, hw, rfl⟩ : ∃ s, s ≤ 3 ∧ y = nJ s := ⟨y.toInt.toNat, by omega, nJ_of (by omega)⟩
        obtain ⟨n, hn, rfl⟩ : ∃ s, s ≤ 60 ∧ v = nJ s := ⟨v.toInt.toNat, by omega, nJ_of (by omega)⟩
        have S := isS_at s hs
        refine E_al rfl L0 ?_
        refine E_ogr rfl hh rfl (q := 53) rfl ?_
        refine E_il rfl L1 ?_
        refine E_aal rfl hh rfl (slot_at s hs) (by decide) ?_
        refine E_il rfl L2 ?_
        refine E_il rfl L3 ?_
        refine E_call rfl (sp_begin (d := d) (by omega) S hh hw hn) (chkO (a := 54 + 2 * s) hh S.1 rfl rfl rfl (by show 0 ≤ 8; decide)) (fun h2 r2 => ?_)
        rintro ⟨e2, hh2, f2, g1, g2, g3⟩
        rw [e2]
        refine E_ci 0 rfl (by decide) ?_
        exact E_rti rfl ⟨by rw [rowv_0 hr]; rfl, .inl ⟨hr, hh2, s, hs, rfl, f2, g1, g2, g3⟩⟩
      · have q4 : ¬ (0 : Int32).toInt ≤ v.toInt := fun w => b4 (Int32.le_iff_toInt_le.mpr w)
        refine E_ifF rfl (decide_eq_false b4) ?_
        refine E_c rfl ?_
        have q5 := rowv_3 (a := x) (b := y) (c := v) (by omega) (by omega)
        exact E_rti rfl ⟨by rw [q5.1], .inr ⟨q5.2, rfl⟩⟩
    · have q3 : ¬ v.toInt ≤ (nJ 60).toInt := fun w => b3 (Int32.le_iff_toInt_le.mpr w)
      rw [nJ_toInt (by omega)] at q3
      refine E_icF rfl (decide_eq_false b3) ?_
      exact no (by omega)
  · rw [hr]
    refine E_ifT rfl (by decide) ?_
    exact no (by omega)
/-! the reference's row -/
noncomputable def RM9 (s : Nat) : List Rng := [(77, 0, 0), (78, s, s), (79, s, s), (80, 0, 239)]
noncomputable def RQ9 (x y v : Int32) (h h' : pm_H) (r : Option Value) : Prop := r = some (.int (rowv x y v)) ∧ ((rin x y v ∧ HH h' ∧ ∃ s, s < 4 ∧ x = nJ s ∧ fr_g (RM9 s) h h' ∧ gi h' 78 s = y ∧ gi h' 79 s = v) ∨ (¬ rin x y v ∧ h' = pt h 77 0 (nJ 0)))
theorem rw9_loop {h0 : pm_H} {d s w n : Nat} (hs : s < 4) (hn : n ≤ 60) (hr : rin (nJ s) (nJ w) (nJ n)) (j : Nat) : ∀ {h : pm_H} {i : Nat} (lv : List (Nat × Value)), i + j = n → HH h → fr_g (RM9 s) h0 h → gi h 78 s = nJ w → gi h 79 s = nJ n → pm_get lv 0 = some (.ref 77) → pm_get lv 1 = some (.int (nJ s)) → pm_get lv 3 = some (.int (nJ n)) → pm_get lv 4 = some (.int (nJ i)) → Ends (pm_at tX9_row) (pm_Rt pm_P d) (57, lv, [], h, 0, 0) (RQ9 (nJ s) (nJ w) (nJ n) h0) := by
  induction j with
  | zero =>
    intro h i lv hj hh hf g1 g2 L0 L1 L3 L4
    refine E_il rfl L4 ?_
    refine E_il rfl L3 ?_
    refine E_icT rfl (decide_eq_true ((nJ_le (by omega) (by omega)).mpr (by omega))) ?_
    refine E_ci 0 rfl (by decide) ?_
    exact E_rti rfl ⟨by rw [rowv_0 hr]; rfl, .inl ⟨hr, hh, s, hs, rfl, hf, g1, g2⟩⟩
  | succ j ih =>
    intro h i lv hj hh hf g1 g2 L0 L1 L3 L4
    refine E_il rfl L4 ?_
    refine E_il rfl L3 ?_
    refine E_icF rfl (decide_eq_false (fun q => absurd ((nJ_le (by omega) (by omega)).mp q) (by omega))) ?_
    refine E_al rfl L0 ?_
    refine E_gr rfl hh (q := 80) rfl ?_
    refine E_ci 60 rfl (by decide) ?_
    refine E_il rfl L1 ?_
    refine E_bin rfl (nJ_mul _ _) ?_
    refine E_il rfl L4 ?_
    refine E_bin rfl (nJ_add _ _) ?_
    refine E_c rfl ?_
    refine E_las rfl hh rfl (by omega) (by decide) (fun h1 hh1 f1 _ => ?_)
    refine E_inc rfl L4 (nJ_inc _) (fun lv1 K4 kp => ?_)
    refine E_goto rfl ?_
    exact ih lv1 (by omega) hh1 (fr_trans hf (fr_one (l := 0) (u := 239) rfl (Nat.zero_le _) (by omega) f1)) (by rw [fr_gi f1 (rg_no rfl _)]; exact g1) (by rw [fr_gi f1 (rg_no rfl _)]; exact g2) (kp 0 _ (by decide) rfl L0) (kp 1 _ (by decide) rfl L1) (kp 3 _ (by decide) rfl L3) K4
theorem sp_row9 {h : pm_H} {d : Nat} {x y v : Int32} (hh : HH h) : Sp (d + 3) 338 h [.ref 77, .int x, .int y, .int v] (RQ9 x y v h) := by
  refine Sp_of aiX9_row rfl rfl rfl ?_
  have L0 : pm_get (lv_args 0 [.ref 77, .int x, .int y, .int v]) 0 = some (.ref 77) := rfl
  have L1 : pm_get (lv_args 0 [.ref 77, .int x, .int y, .int v]) 1 = some (.int x) := rfl
  have L2 : pm_get (lv_args 0 [.ref 77, .int x, .int y, .int v]) 2 = some (.int y) := rfl
  have L3 : pm_get (lv_args 0 [.ref 77, .int x, .int y, .int v]) 3 = some (.int v) := rfl
  generalize lv_args 0 [.ref 77, .int x, .int y, .int v] = lv at L0 L1 L2 L3 ⊢
  have z0 : (0 : Int32).toInt = 0 := rfl
  refine E_al rfl L0 ?_
  refine E_ci 0 rfl (by decide) ?_
  refine E_pf rfl hh rfl ?_
  have hg : HH (pt h 77 0 (nJ 0)) := HH_ptn hh rfl (by omega) (by omega) (by omega)
  have no : (x.toInt < 0 ∨ 3 < x.toInt ∨ y.toInt < 0 ∨ 3 < y.toInt ∨ 60 < v.toInt) → Ends (pm_at tX9_row) (pm_Rt pm_P (d + 2)) (30, lv, [], pt h 77 0 (nJ 0), 0, 0) (RQ9 x y v h) := by
    intro q
    refine E_c rfl ?_
    exact E_rti rfl ⟨by rw [(rowv_2 q).1], .inr ⟨(rowv_2 q).2, rfl⟩⟩
  refine E_il rfl L1 ?_
  refine E_call rfl sp_isSlot (chkS rfl (by show 0 ≤ 8; decide)) (fun h1 r1 => ?_)
  rintro ⟨e1, f1⟩
  rw [e1, f1]
  by_cases b0 : 0 ≤ x.toInt ∧ x.toInt ≤ 3
  · refine E_ifF rfl (by rw [zb_T b0]; rfl) ?_
    refine E_il rfl L2 ?_
    refine E_i2l rfl ?_
    refine E_c rfl ?_
    refine E_c rfl ?_
    refine E_call rfl (sp_in (a := y.toInt) (b := 0) (c := 3) (i2l_toInt _) rfl rfl) (chkS rfl (by show 0 ≤ 8; decide)) (fun h2 r2 => ?_)
    rintro ⟨e2, f2⟩
    rw [e2, f2]
    by_cases b1 : 0 ≤ y.toInt ∧ y.toInt ≤ 3
    · refine E_ifF rfl (by rw [zb_T b1]; rfl) ?_
      refine E_il rfl L3 ?_
      refine E_ci 60 rfl (by decide) ?_
      by_cases b3 : v ≤ nJ 60
      · have q3 := Int32.le_iff_toInt_le.mp b3
        rw [nJ_toInt (by omega)] at q3
        refine E_icT rfl (decide_eq_true b3) ?_
        refine E_il rfl L3 ?_
        by_cases b4 : 0 ≤ v
        · have q4 := Int32.le_iff_toInt_le.mp b4
          refine E_ifT rfl (decide_eq_true b4) ?_
          have hr : rin x y v := ⟨b0, b1, by omega, by omega⟩
          obtain ⟨s, hs, rfl⟩ : ∃ s, s < 4 ∧ x = nJ s := ⟨x.toInt.toNat, by omega, nJ_of b0.1⟩
          obtain ⟨w, hw, rfl⟩ : ∃ s, s ≤ 3 ∧ y = nJ s := ⟨y.toInt.toNat, by omega, nJ_of b1.1⟩
          obtain ⟨n, hn, rfl⟩ : ∃ s, s ≤ 60 ∧ v = nJ s := ⟨v.toInt.toNat, by omega, nJ_of (by omega)⟩
          refine E_al rfl L0 ?_
          refine E_gr rfl hg (q := 78) rfl ?_
          refine E_il rfl L1 ?_
          refine E_il rfl L2 ?_
          refine E_ias rfl hg rfl (by omega) (by decide) ?_
          have h1 : HH (pt (pt h 77 0 (nJ 0)) 78 s (nJ w)) := HH_ptn hg (bd_u rfl (by omega)) (by omega) (by omega) (by omega)
          refine E_al rfl L0 ?_
          refine E_gr rfl h1 (q := 79) rfl ?_
          refine E_il rfl L1 ?_
          refine E_il rfl L3 ?_
          refine E_ias rfl h1 rfl (by omega) (by decide) ?_
          have h2 : HH (pt (pt (pt h 77 0 (nJ 0)) 78 s (nJ w)) 79 s (nJ n)) := HH_ptn h1 (bd_u rfl (by omega)) (by omega) (by omega) (by omega)
          refine E_ci 0 rfl (by decide) ?_
          refine E_is rfl (fun lv1 K4 kp => ?_)
          refine rw9_loop hs hn hr n (i := 0) lv1 (by omega) h2 ?_ ?_ ?_ (kp 0 _ (by decide) rfl L0) (kp 1 _ (by decide) rfl L1) (kp 3 _ (by decide) rfl L3) K4
          · refine fr_ptr (l := s) (u := s) (by unfold RM9 rg_sub; simp) (Nat.le_refl _) (Nat.le_refl _) (fr_ptr (l := s) (u := s) (by unfold RM9 rg_sub; simp) (Nat.le_refl _) (Nat.le_refl _) (fr_ptr (l := 0) (u := 0) (by unfold RM9 rg_sub; simp) (Nat.le_refl _) (Nat.le_refl _) (fr_rf _ _)))
          · rw [gi_ne (by omega)]
            exact gi_pt hg (bd_u rfl (by omega)) (by rw [nJ_toInt (by omega)]; show (-1 : Int) ≤ _; omega) (by rw [nJ_toInt (by omega)]; show _ ≤ (3 : Int); omega)
          · exact gi_pt h1 (bd_u rfl (by omega)) (by rw [nJ_toInt (by omega)]; show (0 : Int) ≤ _; omega) (by rw [nJ_toInt (by omega)]; show _ ≤ (60 : Int); omega)
        · have q4 : ¬ (0 : Int32).toInt ≤ v.toInt := fun w => b4 (Int32.le_iff_toInt_le.mpr w)
          refine E_ifF rfl (decide_eq_false b4) ?_
          refine E_c rfl ?_
          have q5 := rowv_3 (a := x) (b := y) (c := v) (by omega) (by omega)
          exact E_rti rfl ⟨by rw [q5.1], .inr ⟨q5.2, rfl⟩⟩
      · have q3 : ¬ v.toInt ≤ (nJ 60).toInt := fun w => b3 (Int32.le_iff_toInt_le.mpr w)
        rw [nJ_toInt (by omega)] at q3
        refine E_icF rfl (decide_eq_false b3) ?_
        exact no (by omega)
    · refine E_ifT rfl (by rw [zb_F b1]; rfl) ?_
      exact no (by omega)
  · refine E_ifT rfl (by rw [zb_F b0]; rfl) ?_
    exact no (by omega)
/-! the relation of the slots -/
noncomputable def SL1 (s : Nat) (h : pm_H) : Prop := gi h (54 + 2 * s) 1 = (if gi h 78 s = -1 then 0 else 1) ∧ (¬ gi h 78 s = -1 → gi h (54 + 2 * s) 2 = gi h 78 s) ∧ gi h (54 + 2 * s) 3 = gi h 79 s
noncomputable def SL (h : pm_H) : Prop := ∀ s, s < 4 → SL1 s h
end
section
/-! the slots, II: write and paste of both, pairs of calls over the slots' relation (wants t30, t31, t27) -/
theorem Sp_an {d y : Nat} {h : pm_H} {as : List Value} {Q Q' : pm_H → Option Value → Prop} (a : Sp d y h as Q) (b : Sp d y h as Q') : Sp d y h as (fun h' r => Q h' r ∧ Q' h' r) := by
  obtain ⟨h1, r1, a1, a2⟩ := a
  obtain ⟨h2, r2, b1, b2⟩ := b
  obtain ⟨rfl, rfl⟩ := pm_Rt_det _ _ _ _ _ _ _ _ a1 b1
  exact ⟨h1, r1, a1, a2, b2⟩
section WRT
variable {look : Nat → Option pm_I} {call : pm_Call} {Q : pm_H → Option Value → Prop} {pc n i t : Nat} {lv : List (Nat × Value)} {st : List Value} {w : pm_H × Nat × Nat} {h : pm_H} {z : Nat × Nat}
theorem gp_nw {v u : Value} {j : Nat} (hj : j ≠ i) (hj1 : j + 1 ≠ i) (e : pm_get lv j = some u) : pm_get (pm_put1 i v lv) j = some u := by
  unfold pm_put1
  refine pm_get_ne hj (pm_get_filter e ?_)
  simp only [Bool.and_eq_true, Bool.not_eq_true', Bool.and_eq_false_iff, beq_eq_false_iff_ne]
  exact ⟨hj, .inl hj1⟩
theorem E_asw {a : Nat} (h1 : look pc = some (.inl (s_as i n))) (k : ∀ lv' : List (Nat × Value), pm_get lv' i = some (.ref a) → (∀ (j : Nat) (u : Value), j ≠ i → j + 1 ≠ i → pm_get lv j = some u → pm_get lv' j = some u) → Ends look call (n, lv', st, w) Q) : Ends look call (pc, lv, .ref a :: st, w) Q :=
  E_st h1 rfl (k (pm_put1 i (.ref a) lv) gp_self (fun _ _ a b c => gp_nw a b c))
theorem E_rtl {v : Int64} (h1 : look pc = some (.inr (.inr 3))) (hq : Q h (some (.long v))) : Ends look call (pc, lv, [.long v], h, z) Q := ⟨h, some (.long v), Go_ret h1 ⟨v, rfl, rfl⟩, hq⟩
theorem E_tsA {lo hi : Int} {ts : List Nat} {dd : Nat} {x : Int32} (h1 : look pc = some (.inl (s_tsw lo hi ts dd))) (hz : (decide (x.toInt < lo) || decide (hi < x.toInt)) = false) (ht : ts[(x.toInt - lo).toNat]? = some t) (k : Ends look call (t, lv, st, w) Q) : Ends look call (pc, lv, .int x :: st, w) Q := E_st h1 (by simp only [s_tsw, hz, cond_false, ht]) k
theorem E_tsD {lo hi : Int} {ts : List Nat} {dd : Nat} {x : Int32} (h1 : look pc = some (.inl (s_tsw lo hi ts dd))) (hz : (decide (x.toInt < lo) || decide (hi < x.toInt)) = true) (k : Ends look call (dd, lv, st, w) Q) : Ends look call (pc, lv, .int x :: st, w) Q := E_st h1 (by simp only [s_tsw, hz, cond_true]) k
end WRT
/-- a number cut to its width -/
noncomputable def cutv (v : Int64) (w : Int32) : Int64 := if w = 0 then v.toInt32.toInt8.toInt32.toInt64 else if w = 1 then v.toInt32.toInt16.toInt32.toInt64 else if w = 2 then v.toInt32.toInt64 else v
section CUT
variable {h : pm_H} {d : Nat} {v : Int64} {w : Int32}
theorem sp_cut8 : Sp (d + 1) 97 h [.long v, .int w] (fun h' r => h' = h ∧ r = some (.long (cutv v w))) := by
  refine Sp_of aiX8_cut rfl rfl rfl ?_
  have L0 : pm_get (lv_args 0 [.long v, .int w]) 0 = some (.long v) := rfl
  have L2 : pm_get (lv_args 0 [.long v, .int w]) 2 = some (.int w) := rfl
  generalize lv_args 0 [.long v, .int w] = lv at L0 L2 ⊢
  refine E_il rfl L2 ?_
  by_cases e0 : w = 0
  · subst e0
    refine E_tsA (t := 28) rfl (by decide) (by decide) ?_
    refine E_ll rfl L0 ?_
    refine E_l2i rfl rfl ?_
    refine E_un rfl ?_
    refine E_i2l rfl ?_
    exact E_rtl rfl ⟨rfl, by unfold cutv; rw [if_pos rfl]⟩
  by_cases e1 : w = 1
  · subst e1
    refine E_tsA (t := 33) rfl (by decide) (by decide) ?_
    refine E_ll rfl L0 ?_
    refine E_l2i rfl rfl ?_
    refine E_un rfl ?_
    refine E_i2l rfl ?_
    exact E_rtl rfl ⟨rfl, by unfold cutv; rw [if_neg e0, if_pos rfl]⟩
  by_cases e2 : w = 2
  · subst e2
    refine E_tsA (t := 38) rfl (by decide) (by decide) ?_
    refine E_ll rfl L0 ?_
    refine E_l2i rfl rfl ?_
    refine E_i2l rfl ?_
    exact E_rtl rfl ⟨rfl, by unfold cutv; rw [if_neg e0, if_neg e1, if_pos rfl]⟩
  have n0 : w.toInt ≠ 0 := fun q => e0 (Int32.toInt_inj.mp q)
  have n1 : w.toInt ≠ 1 := fun q => e1 (Int32.toInt_inj.mp q)
  have n2 : w.toInt ≠ 2 := fun q => e2 (Int32.toInt_inj.mp q)
  have hz : (decide (w.toInt < 0) || decide (2 < w.toInt)) = true := by
    rw [Bool.or_eq_true, decide_eq_true_iff, decide_eq_true_iff]
    omega
  refine E_tsD rfl hz ?_
  refine E_ll rfl L0 ?_
  exact E_rtl rfl ⟨rfl, by unfold cutv; rw [if_neg e0, if_neg e1, if_neg e2]⟩
theorem sp_cut9 : Sp (d + 1) 236 h [.long v, .int w] (fun h' r => h' = h ∧ r = some (.long (cutv v w))) := by
  refine Sp_of aiX9_cut rfl rfl rfl ?_
  have L0 : pm_get (lv_args 0 [.long v, .int w]) 0 = some (.long v) := rfl
  have L2 : pm_get (lv_args 0 [.long v, .int w]) 2 = some (.int w) := rfl
  generalize lv_args 0 [.long v, .int w] = lv at L0 L2 ⊢
  refine E_il rfl L2 ?_
  by_cases e0 : w = 0
  · refine E_ifF rfl (decide_eq_false (fun q => q e0)) ?_
    refine E_ll rfl L0 ?_
    refine E_l2i rfl rfl ?_
    refine E_un rfl ?_
    refine E_i2l rfl ?_
    refine E_goto rfl ?_
    exact E_rtl rfl ⟨rfl, by unfold cutv; rw [if_pos e0]⟩
  refine E_ifT rfl (decide_eq_true e0) ?_
  refine E_il rfl L2 ?_
  refine E_c rfl ?_
  by_cases e1 : w = 1
  · refine E_icF rfl (decide_eq_false (fun q => q e1)) ?_
    refine E_ll rfl L0 ?_
    refine E_l2i rfl rfl ?_
    refine E_un rfl ?_
    refine E_i2l rfl ?_
    refine E_goto rfl ?_
    exact E_rtl rfl ⟨rfl, by unfold cutv; rw [if_neg e0, if_pos e1]⟩
  refine E_icT rfl (decide_eq_true e1) ?_
  refine E_il rfl L2 ?_
  refine E_c rfl ?_
  by_cases e2 : w = 2
  · refine E_icF rfl (decide_eq_false (fun q => q e2)) ?_
    refine E_ll rfl L0 ?_
    refine E_l2i rfl rfl ?_
    refine E_i2l rfl ?_
    refine E_goto rfl ?_
    exact E_rtl rfl ⟨rfl, by unfold cutv; rw [if_neg e0, if_neg e1, if_pos e2]⟩
  refine E_icT rfl (decide_eq_true e2) ?_
  refine E_ll rfl L0 ?_
  exact E_rtl rfl ⟨rfl, by unfold cutv; rw [if_neg e0, if_neg e1, if_neg e2]⟩
end CUT
/-- what write answers: f filled, m how many -/
noncomputable def wrv (f m : Nat → Int32) (x i : Int32) : Int32 := if 0 ≤ x.toInt ∧ x.toInt ≤ 3 then (if f x.toInt.toNat = 0 then -6 else if 0 ≤ i.toInt ∧ i.toInt < (m x.toInt.toNat).toInt then 0 else -7) else -2
theorem nJ_nat {s : Nat} (hs : s < 4) : (nJ s).toInt.toNat = s := by rw [nJ_toInt (by omega)]; omega
theorem nJ_sl {s : Nat} (hs : s < 4) : 0 ≤ (nJ s).toInt ∧ (nJ s).toInt ≤ 3 := by rw [nJ_toInt (by omega)]; omega
section WRV
variable {f m f' m' w w' : Nat → Int32} {s : Nat} {x i : Int32}
theorem wrv_6 (hs : s < 4) (e : f s = 0) : wrv f m (nJ s) i = -6 := by
  unfold wrv
  rw [if_pos (nJ_sl hs), nJ_nat hs, if_pos e]
theorem wrv_7 (hs : s < 4) (e : ¬ f s = 0) (b : ¬ (0 ≤ i.toInt ∧ i.toInt < (m s).toInt)) : wrv f m (nJ s) i = -7 := by
  unfold wrv
  rw [if_pos (nJ_sl hs), nJ_nat hs, if_neg e, if_neg b]
theorem wrv_0 (hs : s < 4) (e : ¬ f s = 0) (b : 0 ≤ i.toInt ∧ i.toInt < (m s).toInt) : wrv f m (nJ s) i = 0 := by
  unfold wrv
  rw [if_pos (nJ_sl hs), nJ_nat hs, if_neg e, if_pos b]
theorem wrv_2 (b : ¬ (0 ≤ x.toInt ∧ x.toInt ≤ 3)) : wrv f m x i = -2 := if_neg b
theorem wrv_eq (h1 : ∀ s, s < 4 → f s = f' s) (h2 : ∀ s, s < 4 → m s = m' s) : wrv f m x i = wrv f' m' x i := by
  unfold wrv
  by_cases q : 0 ≤ x.toInt ∧ x.toInt ≤ 3
  · rw [if_pos q, if_pos q, h1 _ (by omega), h2 _ (by omega)]
  · rw [if_neg q, if_neg q]
/-- what paste answers: w the width -/
noncomputable def pav (f w m : Nat → Int32) (x i y j n : Int32) : Int32 := if (0 ≤ x.toInt ∧ x.toInt ≤ 3) ∧ 0 ≤ y.toInt ∧ y.toInt ≤ 3 then (if f x.toInt.toNat = 0 ∨ f y.toInt.toNat = 0 then -6 else if w x.toInt.toNat = w y.toInt.toNat then (if (0 ≤ i.toInt ∧ 0 ≤ n.toInt ∧ i.toInt + n.toInt ≤ (m x.toInt.toNat).toInt) ∧ 0 ≤ j.toInt ∧ 0 ≤ n.toInt ∧ j.toInt + n.toInt ≤ (m y.toInt.toNat).toInt then 0 else -7) else -8) else -2
theorem pav_in {t : Nat} {j n : Int32} (hs : s < 4) (ht : t < 4) : pav f w m (nJ s) i (nJ t) j n = if f s = 0 ∨ f t = 0 then -6 else if w s = w t then (if (0 ≤ i.toInt ∧ 0 ≤ n.toInt ∧ i.toInt + n.toInt ≤ (m s).toInt) ∧ 0 ≤ j.toInt ∧ 0 ≤ n.toInt ∧ j.toInt + n.toInt ≤ (m t).toInt then 0 else -7) else -8 := by
  unfold pav
  rw [if_pos ⟨nJ_sl hs, nJ_sl ht⟩, nJ_nat hs, nJ_nat ht]
theorem pav_2 {y j n : Int32} (b : ¬ ((0 ≤ x.toInt ∧ x.toInt ≤ 3) ∧ 0 ≤ y.toInt ∧ y.toInt ≤ 3)) : pav f w m x i y j n = -2 := if_neg b
theorem pav_eq {y j n : Int32} (h1 : ∀ s, s < 4 → f s = f' s) (h2 : ∀ s, s < 4 → ¬ f' s = 0 → w s = w' s) (h3 : ∀ s, s < 4 → m s = m' s) : pav f w m x i y j n = pav f' w' m' x i y j n := by
  by_cases q : (0 ≤ x.toInt ∧ x.toInt ≤ 3) ∧ 0 ≤ y.toInt ∧ y.toInt ≤ 3
  · obtain ⟨s, hs, rfl⟩ : ∃ s, s < 4 ∧ x = nJ s := ⟨x.toInt.toNat, by omega, nJ_of q.1.1⟩
    obtain ⟨t, ht, rfl⟩ : ∃ s, s < 4 ∧ y = nJ s := ⟨y.toInt.toNat, by omega, nJ_of q.2.1⟩
    rw [pav_in hs ht, pav_in hs ht, h1 s hs, h1 t ht, h3 s hs, h3 t ht]
    by_cases z : f' s = 0 ∨ f' t = 0
    · rw [if_pos z, if_pos z]
    · rw [if_neg z, if_neg z, h2 s hs (fun e => z (.inl e)), h2 t ht (fun e => z (.inr e))]
  · rw [pav_2 q, pav_2 q]
end WRV
noncomputable def cf (h : pm_H) (s : Nat) : Int32 := gi h (54 + 2 * s) 1
noncomputable def cwd (h : pm_H) (s : Nat) : Int32 := gi h (54 + 2 * s) 2
noncomputable def cm (h : pm_H) (s : Nat) : Int32 := gi h (54 + 2 * s) 3
noncomputable def rf (h : pm_H) (s : Nat) : Int32 := if gi h 78 s = -1 then 0 else 1
noncomputable def rfw (h : pm_H) (s : Nat) : Int32 := gi h 78 s
noncomputable def rm (h : pm_H) (s : Nat) : Int32 := gi h 79 s
theorem rf_0 {h : pm_H} {s : Nat} (e : gi h 78 s = -1) : rf h s = 0 := if_pos e
theorem rf_1 {h : pm_H} {s : Nat} (e : ¬ gi h 78 s = -1) : ¬ rf h s = 0 := fun q => by
  unfold rf at q
  rw [if_neg e] at q
  exact absurd q (by decide)
theorem psv_pav {h : pm_H} {x i y j n r : Int32} (q : psv h x i y j n r) : r = pav (cf h) (cwd h) (cm h) x i y j n := by
  rcases q with ⟨q, rfl⟩ | ⟨s, t, hs, ht, rfl, rfl, q⟩
  · rw [pav_2 q]
  · rw [pav_in hs ht]
    rcases q with ⟨q, rfl⟩ | ⟨q, q2⟩
    · exact (if_pos q).symm
    rw [if_neg (show ¬ (cf h s = 0 ∨ cf h t = 0) from q)]
    rcases q2 with ⟨q2, rfl⟩ | ⟨q2, q3⟩
    · exact (if_neg q2).symm
    rw [if_pos (show cwd h s = cwd h t from q2)]
    rcases q3 with ⟨q3, rfl⟩ | ⟨q3, rfl⟩
    · exact (if_neg q3).symm
    · exact (if_pos q3).symm
section WR8
variable {h : pm_H} {d : Nat} {x i : Int32} {v : Int64}
theorem sp_write8 (hh : HH h) : Sp (d + 2) 203 h [.ref 0, .int x, .int i, .long v] (fun _ r => r = some (.int (wrv (cf h) (cm h) x i))) := by
  refine Sp_of aiX8_write rfl rfl rfl ?_
  have L0 : pm_get (lv_args 0 [.ref 0, .int x, .int i, .long v]) 0 = some (.ref 0) := rfl
  have L1 : pm_get (lv_args 0 [.ref 0, .int x, .int i, .long v]) 1 = some (.int x) := rfl
  have L2 : pm_get (lv_args 0 [.ref 0, .int x, .int i, .long v]) 2 = some (.int i) := rfl
  have L3 : pm_get (lv_args 0 [.ref 0, .int x, .int i, .long v]) 3 = some (.long v) := rfl
  generalize lv_args 0 [.ref 0, .int x, .int i, .long v] = lv at L0 L1 L2 L3 ⊢
  have z0 : (0 : Int32).toInt = 0 := rfl
  refine E_il rfl L1 ?_
  refine E_call rfl (sp_isSlot8 (d := d)) (chkS rfl (by show 0 ≤ 8; decide)) (fun h1 r1 => ?_)
  rintro ⟨e1, rv⟩
  rw [e1]
  rcases rv with ⟨a0, a3, hr⟩ | ⟨an, hr⟩
  · rw [hr]
    refine E_ifT rfl (by decide) ?_
    obtain ⟨s, hs, rfl⟩ : ∃ s, s < 4 ∧ x = nJ s := ⟨x.toInt.toNat, by omega, nJ_of a0⟩
    obtain ⟨S1, S2, S3, S4, S5, S6⟩ := isS_at s hs
    refine E_al rfl L0 ?_
    refine E_ogr rfl hh rfl (q := 53) rfl ?_
    refine E_il rfl L1 ?_
    refine E_aal rfl hh rfl (slot_at s hs) (by decide) ?_
    refine E_asw rfl (fun lv1 M5 kp => ?_)
    have M2 := kp 2 _ (by decide) (by decide) L2
    have M3 := kp 3 _ (by decide) (by decide) L3
    refine E_al rfl M5 ?_
    refine E_ogf rfl hh S1 S4 rfl ?_
    by_cases b1 : gi h (54 + 2 * s) 1 = 0
    · refine E_ifF rfl (decide_eq_false (fun q => q b1)) ?_
      refine E_c rfl ?_
      exact E_rti rfl (by rw [wrv_6 hs b1])
    refine E_ifT rfl (decide_eq_true b1) ?_
    have g := (ld_gi hh S6).2
    dsimp only at g
    have no : ∀ {lv : List (Nat × Value)}, ¬ (0 ≤ i.toInt ∧ i.toInt < (gi h (54 + 2 * s) 3).toInt) → Ends (pm_at tX8_write) (pm_Rt pm_P (d + 1)) (42, lv, [], h, 0, 0) (fun _ r => r = some (.int (wrv (cf h) (cm h) (nJ s) i))) := by
      intro lv hn
      refine E_c rfl ?_
      exact E_rti rfl (by rw [wrv_7 hs b1 hn])
    refine E_il rfl M2 ?_
    by_cases b2 : i < 0
    · have q := Int32.lt_iff_toInt_lt.mp b2
      refine E_ifT rfl (decide_eq_true b2) ?_
      exact no (by omega)
    have q2 : ¬ i.toInt < (0 : Int32).toInt := fun z => b2 (Int32.lt_iff_toInt_lt.mpr z)
    refine E_ifF rfl (decide_eq_false b2) ?_
    refine E_il rfl M2 ?_
    refine E_al rfl M5 ?_
    refine E_ogf rfl hh S1 S6 rfl ?_
    by_cases b3 : i < gi h (54 + 2 * s) 3
    · have q3 := Int32.lt_iff_toInt_lt.mp b3
      refine E_icT rfl (decide_eq_true b3) ?_
      obtain ⟨k, hk, rfl⟩ : ∃ k, k < 60 ∧ i = nJ k := ⟨i.toInt.toNat, by omega, nJ_of (by omega)⟩
      refine E_al rfl M5 ?_
      refine E_ogr rfl hh S1 S2 ?_
      refine E_il rfl M2 ?_
      refine E_ll rfl M3 ?_
      refine E_al rfl M5 ?_
      refine E_ogf rfl hh S1 S5 rfl ?_
      refine E_call rfl (sp_cut8 (d := d)) (chkS rfl (by show 2 ≤ 8; decide)) (fun h3 r3 => ?_)
      rintro ⟨e3, f3⟩
      rw [e3, f3]
      refine E_las rfl hh S3 hk (by decide) (fun h4 _ _ _ => ?_)
      refine E_c rfl ?_
      exact E_rti rfl (by rw [wrv_0 hs b1 ⟨by omega, q3⟩])
    · have q3 : ¬ i.toInt < (gi h (54 + 2 * s) 3).toInt := fun z => b3 (Int32.lt_iff_toInt_lt.mpr z)
      refine E_icF rfl (decide_eq_false b3) ?_
      exact no (fun z => q3 z.2)
  · rw [hr]
    refine E_ifF rfl (by decide) ?_
    refine E_c rfl ?_
    exact E_rti rfl (by rw [wrv_2 an])
theorem sp_write9 (hh : HH h) : Sp (d + 3) 380 h [.ref 77, .int x, .int i, .long v] (fun _ r => r = some (.int (wrv (rf h) (rm h) x i))) := by
  refine Sp_of aiX9_write rfl rfl rfl ?_
  have L0 : pm_get (lv_args 0 [.ref 77, .int x, .int i, .long v]) 0 = some (.ref 77) := rfl
  have L1 : pm_get (lv_args 0 [.ref 77, .int x, .int i, .long v]) 1 = some (.int x) := rfl
  have L2 : pm_get (lv_args 0 [.ref 77, .int x, .int i, .long v]) 2 = some (.int i) := rfl
  have L3 : pm_get (lv_args 0 [.ref 77, .int x, .int i, .long v]) 3 = some (.long v) := rfl
  generalize lv_args 0 [.ref 77, .int x, .int i, .long v] = lv at L0 L1 L2 L3 ⊢
  have o1 : (1 : Int32).toInt = 1 := rfl
  refine E_al rfl L0 ?_
  refine E_ci 0 rfl (by decide) ?_
  refine E_pf rfl hh rfl ?_
  have hg : HH (pt h 77 0 (nJ 0)) := HH_ptn hh rfl (by omega) (by omega) (by omega)
  refine E_il rfl L1 ?_
  refine E_call rfl sp_isSlot (chkS rfl (by show 0 ≤ 8; decide)) (fun h1 r1 => ?_)
  rintro ⟨e1, f1⟩
  rw [e1, f1]
  by_cases b0 : 0 ≤ x.toInt ∧ x.toInt ≤ 3
  · refine E_ifT rfl (by rw [zb_T b0]; rfl) ?_
    obtain ⟨s, hs, rfl⟩ : ∃ s, s < 4 ∧ x = nJ s := ⟨x.toInt.toNat, by omega, nJ_of b0.1⟩
    refine E_al rfl L0 ?_
    refine E_gr rfl hg (q := 78) rfl ?_
    refine E_il rfl L1 ?_
    refine E_ial (v := gi h 78 s) rfl hg rfl (by omega) (by decide) (gi_ne (by omega)) ?_
    refine E_c rfl ?_
    by_cases b1 : gi h 78 s = -1
    · refine E_icF rfl (decide_eq_false (fun q => q b1)) ?_
      refine E_c rfl ?_
      exact E_rti rfl (by rw [wrv_6 hs (rf_0 b1)])
    refine E_icT rfl (decide_eq_true b1) ?_
    refine E_il rfl L2 ?_
    refine E_i2l rfl ?_
    refine E_c rfl ?_
    refine E_al rfl L0 ?_
    refine E_gr rfl hg (q := 79) rfl ?_
    refine E_il rfl L1 ?_
    refine E_ial (v := gi h 79 s) rfl hg rfl (by omega) (by decide) (gi_ne (by omega)) ?_
    refine E_c rfl ?_
    refine E_bin rfl rfl ?_
    refine E_i2l rfl ?_
    have g := (ld_gi hh (a := 79) (k := s) (bd_u rfl (by omega))).2
    dsimp only at g
    have es : (gi h 79 s - 1).toInt = (gi h 79 s).toInt - 1 := by
      rw [Int32.toInt_sub, o1]
      exact Int.bmod_eq_of_le (by omega) (by omega)
    refine E_call rfl (sp_in (a := i.toInt) (b := 0) (c := (gi h 79 s).toInt - 1) (i2l_toInt _) rfl (by rw [i2l_toInt]; exact es)) (chkS rfl (by show 0 ≤ 8; decide)) (fun h2 r2 => ?_)
    rintro ⟨e2, f2⟩
    rw [e2, f2]
    by_cases b2 : 0 ≤ i.toInt ∧ i.toInt ≤ (gi h 79 s).toInt - 1
    · refine E_ifT rfl (by rw [zb_T b2]; rfl) ?_
      obtain ⟨k, hk, rfl⟩ : ∃ k, k < 60 ∧ i = nJ k := ⟨i.toInt.toNat, by omega, nJ_of b2.1⟩
      refine E_al rfl L0 ?_
      refine E_gr rfl hg (q := 80) rfl ?_
      refine E_ci 60 rfl (by decide) ?_
      refine E_il rfl L1 ?_
      refine E_bin rfl (nJ_mul _ _) ?_
      refine E_il rfl L2 ?_
      refine E_bin rfl (nJ_add _ _) ?_
      refine E_ll rfl L3 ?_
      refine E_al rfl L0 ?_
      refine E_gr rfl hg (q := 78) rfl ?_
      refine E_il rfl L1 ?_
      refine E_ial rfl hg rfl (by omega) (by decide) rfl ?_
      refine E_call rfl (sp_cut9 (d := d + 1)) (chkS rfl (by show 2 ≤ 8; decide)) (fun h3 r3 => ?_)
      rintro ⟨e3, f3⟩
      rw [e3, f3]
      refine E_las rfl hg rfl (by omega) (by decide) (fun h4 _ _ _ => ?_)
      refine E_c rfl ?_
      exact E_rti rfl (by rw [wrv_0 hs (rf_1 b1) ⟨b2.1, by have := b2.2; show _ < (gi h 79 s).toInt; omega⟩])
    · refine E_ifF rfl (by rw [zb_F b2]; rfl) ?_
      refine E_c rfl ?_
      exact E_rti rfl (by rw [wrv_7 hs (rf_1 b1) (fun z => b2 ⟨z.1, by have : _ < (gi h 79 s).toInt := z.2; omega⟩)])
  · refine E_ifF rfl (by rw [zb_F b0]; rfl) ?_
    refine E_c rfl ?_
    exact E_rti rfl (by rw [wrv_2 b0])
end WR8
/-! the reference's paste -/
theorem i2l_add (x y : Int32) : (x.toInt64 + y.toInt64).toInt = x.toInt + y.toInt := by
  have := ai_lo x
  have := ai_hi x
  have := ai_lo y
  have := ai_hi y
  rw [Int64.toInt_add, i2l_toInt, i2l_toInt]
  exact Int.bmod_eq_of_le (by omega) (by omega)
section PA9
variable {d s t a b n : Nat}
theorem p9_b (ht : t < 4) (hb : b + n ≤ 60) (j : Nat) : ∀ {h : pm_H} {c : Nat} (lv : List (Nat × Value)), c + j = n → HH h → pm_get lv 0 = some (.ref 77) → pm_get lv 3 = some (.int (nJ t)) → pm_get lv 4 = some (.int (nJ b)) → pm_get lv 5 = some (.int (nJ n)) → pm_get lv 6 = some (.int (nJ c)) → Ends (pm_at tX9_paste) (pm_Rt pm_P d) (155, lv, [], h, 0, 0) (fun _ r => r = some (.int 0)) := by
  induction j with
  | zero =>
    intro h c lv hj hh L0 L3 L4 L5 L6
    refine E_il rfl L6 ?_
    refine E_il rfl L5 ?_
    refine E_icT rfl (decide_eq_true ((nJ_le (by omega) (by omega)).mpr (by omega))) ?_
    refine E_c rfl ?_
    exact E_rti rfl rfl
  | succ j ih =>
    intro h c lv hj hh L0 L3 L4 L5 L6
    refine E_il rfl L6 ?_
    refine E_il rfl L5 ?_
    refine E_icF rfl (decide_eq_false (fun q => absurd ((nJ_le (by omega) (by omega)).mp q) (by omega))) ?_
    refine E_al rfl L0 ?_
    refine E_gr rfl hh (q := 80) rfl ?_
    refine E_ci 60 rfl (by decide) ?_
    refine E_il rfl L3 ?_
    refine E_bin rfl (nJ_mul _ _) ?_
    refine E_il rfl L4 ?_
    refine E_bin rfl (nJ_add _ _) ?_
    refine E_il rfl L6 ?_
    refine E_bin rfl (nJ_add _ _) ?_
    refine E_al rfl L0 ?_
    refine E_gr rfl hh (q := 81) rfl ?_
    refine E_il rfl L6 ?_
    refine E_lal rfl hh rfl (by omega) (by decide) ?_
    refine E_las rfl hh rfl (by omega) (by decide) (fun h1 hh1 _ _ => ?_)
    refine E_inc rfl L6 (nJ_inc _) (fun lv1 K6 kp => ?_)
    refine E_goto rfl ?_
    exact ih lv1 (by omega) hh1 (kp 0 _ (by decide) rfl L0) (kp 3 _ (by decide) rfl L3) (kp 4 _ (by decide) rfl L4) (kp 5 _ (by decide) rfl L5) K6
theorem p9_a (hs : s < 4) (ht : t < 4) (ha : a + n ≤ 60) (hb : b + n ≤ 60) (j : Nat) : ∀ {h : pm_H} {c : Nat} (lv : List (Nat × Value)), c + j = n → HH h → pm_get lv 0 = some (.ref 77) → pm_get lv 1 = some (.int (nJ s)) → pm_get lv 2 = some (.int (nJ a)) → pm_get lv 3 = some (.int (nJ t)) → pm_get lv 4 = some (.int (nJ b)) → pm_get lv 5 = some (.int (nJ n)) → pm_get lv 6 = some (.int (nJ c)) → Ends (pm_at tX9_paste) (pm_Rt pm_P d) (118, lv, [], h, 0, 0) (fun _ r => r = some (.int 0)) := by
  induction j with
  | zero =>
    intro h c lv hj hh L0 L1 L2 L3 L4 L5 L6
    refine E_il rfl L6 ?_
    refine E_il rfl L5 ?_
    refine E_icT rfl (decide_eq_true ((nJ_le (by omega) (by omega)).mpr (by omega))) ?_
    refine E_ci 0 rfl (by decide) ?_
    refine E_is rfl (fun lv1 K6 kp => ?_)
    exact p9_b ht hb n (c := 0) lv1 (by omega) hh (kp 0 _ (by decide) rfl L0) (kp 3 _ (by decide) rfl L3) (kp 4 _ (by decide) rfl L4) (kp 5 _ (by decide) rfl L5) K6
  | succ j ih =>
    intro h c lv hj hh L0 L1 L2 L3 L4 L5 L6
    refine E_il rfl L6 ?_
    refine E_il rfl L5 ?_
    refine E_icF rfl (decide_eq_false (fun q => absurd ((nJ_le (by omega) (by omega)).mp q) (by omega))) ?_
    refine E_al rfl L0 ?_
    refine E_gr rfl hh (q := 81) rfl ?_
    refine E_il rfl L6 ?_
    refine E_al rfl L0 ?_
    refine E_gr rfl hh (q := 80) rfl ?_
    refine E_ci 60 rfl (by decide) ?_
    refine E_il rfl L1 ?_
    refine E_bin rfl (nJ_mul _ _) ?_
    refine E_il rfl L2 ?_
    refine E_bin rfl (nJ_add _ _) ?_
    refine E_il rfl L6 ?_
    refine E_bin rfl (nJ_add _ _) ?_
    refine E_lal rfl hh rfl (by omega) (by decide) ?_
    refine E_las rfl hh rfl (by omega) (by decide) (fun h1 hh1 _ _ => ?_)
    refine E_inc rfl L6 (nJ_inc _) (fun lv1 K6 kp => ?_)
    refine E_goto rfl ?_
    exact ih lv1 (by omega) hh1 (kp 0 _ (by decide) rfl L0) (kp 1 _ (by decide) rfl L1) (kp 2 _ (by decide) rfl L2) (kp 3 _ (by decide) rfl L3) (kp 4 _ (by decide) rfl L4) (kp 5 _ (by decide) rfl L5) K6
theorem sp_paste9 {h : pm_H} {x i y j n : Int32} (hh : HH h) : Sp (d + 3) 323 h [.ref 77, .int x, .int i, .int y, .int j, .int n] (fun _ r => r = some (.int (pav (rf h) (rfw h) (rm h) x i y j n))) := by
  refine Sp_of aiX9_paste rfl rfl rfl ?_
  have L0 : pm_get (lv_args 0 [.ref 77, .int x, .int i, .int y, .int j, .int n]) 0 = some (.ref 77) := rfl
  have L1 : pm_get (lv_args 0 [.ref 77, .int x, .int i, .int y, .int j, .int n]) 1 = some (.int x) := rfl
  have L2 : pm_get (lv_args 0 [.ref 77, .int x, .int i, .int y, .int j, .int n]) 2 = some (.int i) := rfl
  have L3 : pm_get (lv_args 0 [.ref 77, .int x, .int i, .int y, .int j, .int n]) 3 = some (.int y) := rfl
  have L4 : pm_get (lv_args 0 [.ref 77, .int x, .int i, .int y, .int j, .int n]) 4 = some (.int j) := rfl
  have L5 : pm_get (lv_args 0 [.ref 77, .int x, .int i, .int y, .int j, .int n]) 5 = some (.int n) := rfl
  generalize lv_args 0 [.ref 77, .int x, .int i, .int y, .int j, .int n] = lv at L0 L1 L2 L3 L4 L5 ⊢
  have z0 : (0 : Int32).toInt = 0 := rfl
  refine E_al rfl L0 ?_
  refine E_ci 0 rfl (by decide) ?_
  refine E_pf rfl hh rfl ?_
  have hg : HH (pt h 77 0 (nJ 0)) := HH_ptn hh rfl (by omega) (by omega) (by omega)
  have no : ¬ ((0 ≤ x.toInt ∧ x.toInt ≤ 3) ∧ 0 ≤ y.toInt ∧ y.toInt ≤ 3) → Ends (pm_at tX9_paste) (pm_Rt pm_P (d + 2)) (19, lv, [], pt h 77 0 (nJ 0), 0, 0) (fun _ r => r = some (.int (pav (rf h) (rfw h) (rm h) x i y j n))) := by
    intro hn
    refine E_c rfl ?_
    exact E_rti rfl (by rw [pav_2 hn])
  refine E_il rfl L1 ?_
  refine E_call rfl sp_isSlot (chkS rfl (by show 0 ≤ 8; decide)) (fun h1 r1 => ?_)
  rintro ⟨e1, f1⟩
  rw [e1, f1]
  by_cases b0 : 0 ≤ x.toInt ∧ x.toInt ≤ 3
  · refine E_ifF rfl (by rw [zb_T b0]; rfl) ?_
    refine E_il rfl L3 ?_
    refine E_call rfl sp_isSlot (chkS rfl (by show 0 ≤ 8; decide)) (fun h2 r2 => ?_)
    rintro ⟨e2, f2⟩
    rw [e2, f2]
    by_cases c0 : 0 ≤ y.toInt ∧ y.toInt ≤ 3
    · refine E_ifT rfl (by rw [zb_T c0]; rfl) ?_
      obtain ⟨s, hs, rfl⟩ : ∃ s, s < 4 ∧ x = nJ s := ⟨x.toInt.toNat, by omega, nJ_of b0.1⟩
      obtain ⟨t, ht, rfl⟩ : ∃ s, s < 4 ∧ y = nJ s := ⟨y.toInt.toNat, by omega, nJ_of c0.1⟩
      rw [pav_in hs ht]
      refine E_al rfl L0 ?_
      refine E_gr rfl hg (q := 78) rfl ?_
      refine E_il rfl L1 ?_
      refine E_ial (v := gi h 78 s) rfl hg rfl (by omega) (by decide) (gi_ne (by omega)) ?_
      refine E_c rfl ?_
      by_cases b1 : gi h 78 s = -1
      · refine E_icT rfl (decide_eq_true b1) ?_
        refine E_c rfl ?_
        exact E_rti rfl (by rw [if_pos (.inl (rf_0 b1))])
      refine E_icF rfl (decide_eq_false b1) ?_
      refine E_al rfl L0 ?_
      refine E_gr rfl hg (q := 78) rfl ?_
      refine E_il rfl L3 ?_
      refine E_ial (v := gi h 78 t) rfl hg rfl (by omega) (by decide) (gi_ne (by omega)) ?_
      refine E_c rfl ?_
      by_cases b2 : gi h 78 t = -1
      · refine E_icF rfl (decide_eq_false (fun q => q b2)) ?_
        refine E_c rfl ?_
        exact E_rti rfl (by rw [if_pos (.inr (rf_0 b2))])
      refine E_icT rfl (decide_eq_true b2) ?_
      rw [if_neg (fun q : rf h s = 0 ∨ rf h t = 0 => q.elim (rf_1 b1) (rf_1 b2))]
      refine E_al rfl L0 ?_
      refine E_gr rfl hg (q := 78) rfl ?_
      refine E_il rfl L1 ?_
      refine E_ial (v := gi h 78 s) rfl hg rfl (by omega) (by decide) (gi_ne (by omega)) ?_
      refine E_al rfl L0 ?_
      refine E_gr rfl hg (q := 78) rfl ?_
      refine E_il rfl L3 ?_
      refine E_ial (v := gi h 78 t) rfl hg rfl (by omega) (by decide) (gi_ne (by omega)) ?_
      by_cases b3 : gi h 78 s = gi h 78 t
      · refine E_icT rfl (decide_eq_true b3) ?_
        rw [if_pos (show rfw h s = rfw h t from b3)]
        have g1 := (ld_gi hh (a := 79) (k := s) (bd_u rfl (by omega))).2
        have g2 := (ld_gi hh (a := 79) (k := t) (bd_u rfl (by omega))).2
        dsimp only at g1 g2
        have no7 : ¬ ((0 ≤ i.toInt ∧ 0 ≤ n.toInt ∧ i.toInt + n.toInt ≤ (rm h s).toInt) ∧ 0 ≤ j.toInt ∧ 0 ≤ n.toInt ∧ j.toInt + n.toInt ≤ (rm h t).toInt) → Ends (pm_at tX9_paste) (pm_Rt pm_P (d + 2)) (112, lv, [], pt h 77 0 (nJ 0), 0, 0) (fun _ r => r = some (.int (if (0 ≤ i.toInt ∧ 0 ≤ n.toInt ∧ i.toInt + n.toInt ≤ (rm h s).toInt) ∧ 0 ≤ j.toInt ∧ 0 ≤ n.toInt ∧ j.toInt + n.toInt ≤ (rm h t).toInt then 0 else -7))) := by
          intro hn
          refine E_c rfl ?_
          exact E_rti rfl (by rw [if_neg hn])
        have r1 : rm h s = gi h 79 s := rfl
        have r2 : rm h t = gi h 79 t := rfl
        rw [r1, r2] at no7 ⊢
        refine E_il rfl L2 ?_
        by_cases k1 : i < 0
        · have q := Int32.lt_iff_toInt_lt.mp k1
          refine E_ifT rfl (decide_eq_true k1) ?_
          exact no7 (by omega)
        have q1 : ¬ i.toInt < (0 : Int32).toInt := fun z => k1 (Int32.lt_iff_toInt_lt.mpr z)
        refine E_ifF rfl (decide_eq_false k1) ?_
        refine E_il rfl L4 ?_
        by_cases k2 : j < 0
        · have q := Int32.lt_iff_toInt_lt.mp k2
          refine E_ifT rfl (decide_eq_true k2) ?_
          exact no7 (by omega)
        have q2 : ¬ j.toInt < (0 : Int32).toInt := fun z => k2 (Int32.lt_iff_toInt_lt.mpr z)
        refine E_ifF rfl (decide_eq_false k2) ?_
        refine E_il rfl L5 ?_
        by_cases k3 : n < 0
        · have q := Int32.lt_iff_toInt_lt.mp k3
          refine E_ifT rfl (decide_eq_true k3) ?_
          exact no7 (by omega)
        have q3 : ¬ n.toInt < (0 : Int32).toInt := fun z => k3 (Int32.lt_iff_toInt_lt.mpr z)
        refine E_ifF rfl (decide_eq_false k3) ?_
        refine E_il rfl L2 ?_
        refine E_i2l rfl ?_
        refine E_il rfl L5 ?_
        refine E_i2l rfl ?_
        refine E_lbin rfl ?_
        refine E_al rfl L0 ?_
        refine E_gr rfl hg (q := 79) rfl ?_
        refine E_il rfl L1 ?_
        refine E_ial (v := gi h 79 s) rfl hg rfl (by omega) (by decide) (gi_ne (by omega)) ?_
        refine E_i2l rfl ?_
        refine E_lcmp rfl ?_
        by_cases k4 : (gi h 79 s).toInt < i.toInt + n.toInt
        · refine E_ifT rfl (decide_eq_true ((lg_cmp_gt _ _).mpr (by rw [Int64.lt_iff_toInt_lt, i2l_add, i2l_toInt]; omega))) ?_
          exact no7 (by omega)
        refine E_ifF rfl (decide_eq_false (fun q => absurd ((lg_cmp_gt _ _).mp q) (by rw [Int64.lt_iff_toInt_lt, i2l_add, i2l_toInt]; omega))) ?_
        refine E_il rfl L4 ?_
        refine E_i2l rfl ?_
        refine E_il rfl L5 ?_
        refine E_i2l rfl ?_
        refine E_lbin rfl ?_
        refine E_al rfl L0 ?_
        refine E_gr rfl hg (q := 79) rfl ?_
        refine E_il rfl L3 ?_
        refine E_ial (v := gi h 79 t) rfl hg rfl (by omega) (by decide) (gi_ne (by omega)) ?_
        refine E_i2l rfl ?_
        refine E_lcmp rfl ?_
        by_cases k5 : j.toInt + n.toInt ≤ (gi h 79 t).toInt
        · refine E_ifT rfl (decide_eq_true ((lg_cmp_le _ _).mpr (by rw [Int64.le_iff_toInt_le, i2l_add, i2l_toInt]; omega))) ?_
          rw [if_pos (by omega)]
          obtain ⟨a, ha, rfl⟩ : ∃ k, k ≤ 60 ∧ i = nJ k := ⟨i.toInt.toNat, by omega, nJ_of (by omega)⟩
          obtain ⟨b, hb, rfl⟩ : ∃ k, k ≤ 60 ∧ j = nJ k := ⟨j.toInt.toNat, by omega, nJ_of (by omega)⟩
          obtain ⟨m, hm, rfl⟩ : ∃ k, k ≤ 60 ∧ n = nJ k := ⟨n.toInt.toNat, by omega, nJ_of (by omega)⟩
          have ea := nJ_toInt (n := a) (by omega)
          have eb := nJ_toInt (n := b) (by omega)
          have em := nJ_toInt (n := m) (by omega)
          refine E_ci 0 rfl (by decide) ?_
          refine E_is rfl (fun lv1 K6 kp => ?_)
          exact p9_a hs ht (by omega) (by omega) m (c := 0) lv1 (by omega) hg (kp 0 _ (by decide) rfl L0) (kp 1 _ (by decide) rfl L1) (kp 2 _ (by decide) rfl L2) (kp 3 _ (by decide) rfl L3) (kp 4 _ (by decide) rfl L4) (kp 5 _ (by decide) rfl L5) K6
        · refine E_ifF rfl (decide_eq_false (fun q => absurd ((lg_cmp_le _ _).mp q) (by rw [Int64.le_iff_toInt_le, i2l_add, i2l_toInt]; omega))) ?_
          exact no7 (by omega)
      · refine E_icF rfl (decide_eq_false b3) ?_
        rw [if_neg (show ¬ rfw h s = rfw h t from b3)]
        refine E_c rfl ?_
        exact E_rti rfl rfl
    · refine E_ifF rfl (by rw [zb_F c0]; rfl) ?_
      exact no (fun q => c0 q.2)
  · refine E_ifT rfl (by rw [zb_F b0]; rfl) ?_
    exact no (fun q => b0 q.1)
end PA9
end
section
/-! pairs of calls over the slots' relation (wants t32) -/
noncomputable def RES (h : pm_H) : Prop := REL h ∧ SL h
noncomputable def IVS (h : pm_H) : Prop := IVh h ∧ RES h
noncomputable def slB (M : List Rng) : Bool := (M.all (fun r => !(Nat.beq r.1 54)) && M.all (fun r => !(Nat.beq r.1 56))) && ((M.all (fun r => !(Nat.beq r.1 58)) && M.all (fun r => !(Nat.beq r.1 60))) && (M.all (fun r => !(Nat.beq r.1 78)) && M.all (fun r => !(Nat.beq r.1 79))))
noncomputable def resB (M : List Rng) : Bool := relB M && slB M
theorem SL1_eq {h h' : pm_H} {s : Nat} (e1 : gi h' (54 + 2 * s) 1 = gi h (54 + 2 * s) 1) (e2 : gi h' (54 + 2 * s) 2 = gi h (54 + 2 * s) 2) (e3 : gi h' (54 + 2 * s) 3 = gi h (54 + 2 * s) 3) (e4 : gi h' 78 s = gi h 78 s) (e5 : gi h' 79 s = gi h 79 s) (S : SL1 s h) : SL1 s h' := by
  unfold SL1
  rw [e1, e2, e3, e4, e5]
  exact S
theorem slB_at {M : List Rng} (hb : slB M = true) : ∀ s, s < 4 → M.all (fun r => !(Nat.beq r.1 (54 + 2 * s))) = true := by
  unfold slB at hb
  simp only [Bool.and_eq_true] at hb
  intro s hs
  match s, hs with
  | 0, _ => exact hb.1.1
  | 1, _ => exact hb.1.2
  | 2, _ => exact hb.2.1.1
  | 3, _ => exact hb.2.1.2
theorem slB_r {M : List Rng} (hb : slB M = true) : M.all (fun r => !(Nat.beq r.1 78)) = true ∧ M.all (fun r => !(Nat.beq r.1 79)) = true := by
  unfold slB at hb
  simp only [Bool.and_eq_true] at hb
  exact hb.2.2
theorem SL_fr {M : List Rng} {h h' : pm_H} (hf : fr_g M h h') (hb : slB M = true) (S : SL h) : SL h' := by
  intro s hs
  have c1 := slB_at hb s hs
  have c2 := slB_r hb
  exact SL1_eq (fr_gi hf (rg_no c1 _)) (fr_gi hf (rg_no c1 _)) (fr_gi hf (rg_no c1 _)) (fr_gi hf (rg_no c2.1 _)) (fr_gi hf (rg_no c2.2 _)) (S s hs)
theorem RES_fr {M : List Rng} {h h' : pm_H} (hf : fr_g M h h') (hb : resB M = true) (R : RES h) : RES h' := by
  unfold resB at hb
  rw [Bool.and_eq_true] at hb
  exact ⟨REL_fr hf hb.1 R.1, SL_fr hf hb.2 R.2⟩
theorem tS_int {d y : Nat} {h : pm_H} {as : List Value} {M : List Rng} (hd : Nat.ble d 100 = true) (hM : resB M = true) (R : RES h) (k : Sp d y h as (fun h' r => IVh h' ∧ fr_g M h h' ∧ ∃ x : Int32, r = some (.int x))) : Sp 100 y h as (fun h' r => IVS h' ∧ ∃ x : Int32, r = some (.int x)) :=
  Sp_le (Nat.le_of_ble_eq_true hd) (Sp_mono (fun _ _ q => ⟨⟨q.1, RES_fr q.2.1 hM R⟩, q.2.2⟩) k)
theorem tS_lng {d y : Nat} {h : pm_H} {as : List Value} {M : List Rng} (hd : Nat.ble d 100 = true) (hM : resB M = true) (R : RES h) (k : Sp d y h as (fun h' r => IVh h' ∧ fr_g M h h' ∧ ∃ x : Int64, r = some (.long x))) : Sp 100 y h as (fun h' r => IVS h' ∧ ∃ x : Int64, r = some (.long x)) :=
  Sp_le (Nat.le_of_ble_eq_true hd) (Sp_mono (fun _ _ q => ⟨⟨q.1, RES_fr q.2.1 hM R⟩, q.2.2⟩) k)
theorem IVS_hp0 : IVS hp0 := by
  refine ⟨IVR_hp0.1, IVR_hp0.2, fun s hs => ?_⟩
  match s, hs with
  | 0, _ => exact ⟨by decide +kernel, fun q => absurd (by decide +kernel) q, by decide +kernel⟩
  | 1, _ => exact ⟨by decide +kernel, fun q => absurd (by decide +kernel) q, by decide +kernel⟩
  | 2, _ => exact ⟨by decide +kernel, fun q => absurd (by decide +kernel) q, by decide +kernel⟩
  | 3, _ => exact ⟨by decide +kernel, fun q => absurd (by decide +kernel) q, by decide +kernel⟩
/-- a call that keeps the slots' places, joined to a pair's first half -/
theorem hf_SL {d y : Nat} {h : pm_H} {as : List Value} {M : List Rng} {P : pm_H → Int32 → Prop} {T : pm_H → Option Value → Prop} (hd : d ≤ 100) (hM : slB M = true) (S : SL h) (a : Sp 100 y h as (fun h' r => IVh h' ∧ ∃ x : Int32, r = some (.int x) ∧ P h' x)) (b : Sp d y h as (fun h' r => T h' r ∧ fr_g M h h')) : Sp 100 y h as (fun h' r => IVh h' ∧ ∃ x : Int32, r = some (.int x) ∧ (P h' x ∧ SL h')) :=
  Sp_mono (fun _ _ q => by
    obtain ⟨⟨q1, x, q2, q3⟩, -, q4⟩ := q
    exact ⟨q1, x, q2, q3, SL_fr q4 hM S⟩) (Sp_an a (Sp_le hd b))
/-- the same of a second half -/
theorem hs_SL {d y : Nat} {h : pm_H} {as : List Value} {M : List Rng} {P : Option Value → Prop} {T : pm_H → Option Value → Prop} (hd : d ≤ 100) (hM : slB M = true) (S : SL h) (a : Sp 100 y h as (fun h' r => IVR h' ∧ P r)) (b : Sp d y h as (fun h' r => T h' r ∧ fr_g M h h')) : Sp 100 y h as (fun h' r => IVS h' ∧ P r) :=
  Sp_mono (fun _ _ q => by
    obtain ⟨⟨q1, q2⟩, -, q4⟩ := q
    exact ⟨⟨q1.1, q1.2, SL_fr q4 hM S⟩, q2⟩) (Sp_an a (Sp_le hd b))
theorem tf_all {d : Nat} {S : Sum1} (q : sum_g w0 (pm_Rt pm_P d) S) (hb : topB S = true) {h : pm_H} {as : List Value} (I : IVh h) (ha : f2 cv_g S.2.1 as) : Sp d S.1 h as (fun h' _ => IVh h' ∧ fr_g S.2.2.2.2.1 h h') :=
  Sp_mono (fun _ _ q => ⟨q.1, q.2.1⟩) (top_all q hb I ha)
section OLD
variable {h : pm_H} {x v a b c d e : Int32}
theorem d8_feed (I : IVS h) : Sp 100 106 h [.ref 0, .int a, .int b, .int c, .int d, .int e] (fun h' r => IVh h' ∧ ∃ x : Int32, r = some (.int x) ∧ (half_feed h' x a b c d e ∧ SL h')) :=
  hf_SL (by omega) rfl I.2.2 (c8_feed ⟨I.1, I.2.1⟩) (tf_all (as := [.ref 0, .int a, .int b, .int c, .int d, .int e]) q1 (by decide +kernel) I.1 ⟨rfl, aI _, aI _, aI _, aI _, aI _, trivial⟩)
theorem d9_feed (I : IVh h) (J : half_feed h x a b c d e ∧ SL h) : Sp 100 247 h [.ref 77, .int a, .int b, .int c, .int d, .int e] (fun h' r => IVS h' ∧ r = some (.int x)) :=
  hs_SL (by omega) rfl J.2 (c9_feed I J.1) (tf_all (as := [.ref 77, .int a, .int b, .int c, .int d, .int e]) q7 (by decide +kernel) I ⟨rfl, aI _, aI _, aI _, aI _, aI _, trivial⟩)
theorem d8_end (I : IVS h) : Sp 100 101 h [.ref 0, .int v] (fun h' r => IVh h' ∧ ∃ x : Int32, r = some (.int x) ∧ (half_end h' x v ∧ SL h')) :=
  hf_SL (by omega) rfl I.2.2 (c8_end ⟨I.1, I.2.1⟩) (tf_all (as := [.ref 0, .int v]) q8 (by decide +kernel) I.1 ⟨rfl, aI _, trivial⟩)
theorem d9_end (I : IVh h) (J : half_end h x v ∧ SL h) : Sp 100 241 h [.ref 77, .int v] (fun h' r => IVS h' ∧ r = some (.int x)) :=
  hs_SL (by omega) rfl J.2 (c9_end I J.1) (tf_all (as := [.ref 77, .int v]) q10 (by decide +kernel) I ⟨rfl, aI _, trivial⟩)
theorem d8_street (I : IVS h) : Sp 100 185 h [.ref 0] (fun h' r => IVh h' ∧ ∃ x : Int32, r = some (.int x) ∧ (half_street h' ∧ SL h')) :=
  hf_SL (P := fun h' _ => half_street h') (by omega) rfl I.2.2 (c8_street ⟨I.1, I.2.1⟩) (tf_all (as := [.ref 0]) q106 (by decide +kernel) I.1 ⟨rfl, trivial⟩)
theorem d9_street (I : IVh h) (J : half_street h ∧ SL h) : Sp 100 354 h [.ref 77] (fun h' r => IVS h' ∧ ∃ x : Int32, r = some (.int x)) :=
  hs_SL (P := fun r => ∃ x : Int32, r = some (.int x)) (M := VMS) (T := fun h' _ => HH h') (d := 40) (by omega) rfl J.2 (c9_street I J.1) (Sp_mono (fun _ _ q => ⟨q.1, q.2.1⟩) (tv_street (d := 0) I.1 I.2.2))
theorem d8_image (I : IVS h) : Sp 100 121 h [.ref 0, .int v] (fun h' r => IVh h' ∧ ∃ x : Int32, r = some (.int x) ∧ (half_image h' x v ∧ SL h')) :=
  hf_SL (by omega) rfl I.2.2 (c8_image ⟨I.1, I.2.1⟩) (tf_all (as := [.ref 0, .int v]) q905 (by decide +kernel) I.1 ⟨rfl, aI _, trivial⟩)
theorem d9_image (I : IVh h) (J : half_image h x v ∧ SL h) : Sp 100 260 h [.ref 77, .int v] (fun h' r => IVS h' ∧ r = some (.int x)) :=
  hs_SL (M := VMI) (T := fun h' _ => HH h') (d := 40) (by omega) rfl J.2 (c9_image I J.1) (Sp_mono (fun _ _ q => ⟨q.1, q.2.1⟩) (tv_image (d := 0) I.1 I.2.2))
theorem d8_back (I : IVS h) : Sp 100 82 h [.ref 0, .int v] (fun h' r => IVh h' ∧ ∃ x : Int32, r = some (.int x) ∧ (half_back h' x v ∧ SL h')) :=
  hf_SL (by omega) rfl I.2.2 (c8_back ⟨I.1, I.2.1⟩) (tf_all (as := [.ref 0, .int v]) q927 (by decide +kernel) I.1 ⟨rfl, aI _, trivial⟩)
theorem d9_back (I : IVh h) (J : half_back h x v ∧ SL h) : Sp 100 212 h [.ref 77, .int v] (fun h' r => IVS h' ∧ r = some (.int x)) :=
  hs_SL (M := VM) (T := fun h' _ => HH h') (d := 40) (by omega) rfl J.2 (c9_back I J.1) (Sp_mono (fun _ _ q => ⟨q.1, q.2.1⟩) (tv_back (d := 0) I.1 I.2.2))
end OLD
theorem beq_no {a b : Nat} (h : a ≠ b) : Nat.beq a b = false := by
  cases hq : Nat.beq a b with
  | false => rfl
  | true => exact absurd (Nat.eq_of_beq_eq_true hq) h
theorem no2 {a1 l1 u1 a2 l2 u2 b : Nat} (h1 : a1 ≠ b) (h2 : a2 ≠ b) (k : Nat) : rg_in [(a1, l1, u1), (a2, l2, u2)] b k = false := rg_no (by simp [beq_no h1, beq_no h2]) k
theorem RM9_no {s0 b k : Nat} (h1 : 77 ≠ b) (h2 : b ≠ 80) (h3 : b = 78 ∨ b = 79 → k ≠ s0) : rg_in (RM9 s0) b k = false := by
  cases hq : rg_in (RM9 s0) b k with
  | false => rfl
  | true =>
    obtain ⟨r, hr, hc⟩ := List.any_eq_true.mp hq
    simp only [Bool.and_eq_true] at hc
    have c1 := Nat.eq_of_beq_eq_true hc.1
    have c2 := Nat.le_of_ble_eq_true hc.2.1
    have c3 := Nat.le_of_ble_eq_true hc.2.2
    simp only [RM9, List.mem_cons, List.not_mem_nil, or_false] at hr
    rcases hr with rfl | rfl | rfl | rfl
    · exact absurd c1 h1
    · exact absurd (Nat.le_antisymm c3 c2) (h3 (.inl c1.symm))
    · exact absurd (Nat.le_antisymm c3 c2) (h3 (.inr c1.symm))
    · exact absurd c1.symm h2
/-- row: between the class's call and the reference's -/
noncomputable def half_row (h : pm_H) (x a b c : Int32) : Prop := REL h ∧ x = rowv a b c ∧ ∀ s, s < 4 → (rin a b c ∧ a = nJ s ∧ gi h (54 + 2 * s) 1 = 1 ∧ gi h (54 + 2 * s) 2 = b ∧ gi h (54 + 2 * s) 3 = c) ∨ (¬ (rin a b c ∧ a = nJ s) ∧ SL1 s h)
section ROW
variable {h : pm_H} {x a b c : Int32}
theorem d8_row (I : IVS h) : Sp 100 171 h [.ref 0, .int a, .int b, .int c] (fun h' r => IVh h' ∧ ∃ x : Int32, r = some (.int x) ∧ half_row h' x a b c) := by
  refine Sp_le (by omega) (Sp_mono ?_ (Sp_and (top_all (as := [.ref 0, .int a, .int b, .int c]) q949 (by decide +kernel) I.1 ⟨rfl, aI _, aI _, aI _, trivial⟩) (sp_row8 (d := 0) I.1.1)))
  rintro h' r ⟨⟨s1, s2, -⟩, s3, s4⟩
  refine ⟨s1, _, s3, REL_fr s2 rfl I.2.1, rfl, fun s hs => ?_⟩
  rcases s4 with ⟨hr, -, s0, hs0, rfl, f0, g1, g2, g3⟩ | ⟨hr, rfl⟩
  · by_cases e : s = s0
    · subst e
      exact .inl ⟨hr, rfl, g1, g2, g3⟩
    · refine .inr ⟨fun q => e ?_, ?_⟩
      · exact ((nJ_eq (by omega) (by omega)).mp q.2).symm
      · exact SL1_eq (fr_gi f0 (no2 (by omega) (by omega) _)) (fr_gi f0 (no2 (by omega) (by omega) _)) (fr_gi f0 (no2 (by omega) (by omega) _)) (fr_gi f0 (no2 (by omega) (by omega) _)) (fr_gi f0 (no2 (by omega) (by omega) _)) (I.2.2 s hs)
  · exact .inr ⟨fun q => hr q.1, I.2.2 s hs⟩
theorem d9_row (I : IVh h) (J : half_row h x a b c) : Sp 100 338 h [.ref 77, .int a, .int b, .int c] (fun h' r => IVS h' ∧ r = some (.int x)) := by
  refine Sp_le (by omega) (Sp_mono ?_ (Sp_and (top_all (as := [.ref 77, .int a, .int b, .int c]) q950 (by decide +kernel) I ⟨rfl, aI _, aI _, aI _, trivial⟩) (sp_row9 (d := 0) I.1)))
  rintro h' r ⟨⟨s1, s2, -⟩, s3, s4⟩
  obtain ⟨J1, rfl, J3⟩ := J
  refine ⟨⟨s1, REL_fr s2 rfl J1, fun s hs => ?_⟩, s3⟩
  rcases s4 with ⟨hr, -, s0, hs0, rfl, f0, g1, g2⟩ | ⟨hr, rfl⟩
  · have eA : ∀ k, gi h' (54 + 2 * s) k = gi h (54 + 2 * s) k := fun k => fr_gi f0 (RM9_no (by omega) (by omega) (by omega))
    rcases J3 s hs with ⟨-, e, j1, j2, j3⟩ | ⟨e, S⟩
    · have e := (nJ_eq (by omega) (by omega)).mp e
      subst e
      have z0 : (0 : Int32).toInt = 0 := rfl
      have nb : ¬ gi h' 78 s0 = -1 := fun q => by
        rw [g1] at q
        have q2 := hr.2.1.1
        rw [q] at q2
        exact absurd q2 (by decide)
      refine ⟨by rw [if_neg nb, eA]; exact j1, fun _ => by rw [eA, g1]; exact j2, by rw [eA, g2]; exact j3⟩
    · have ne : s ≠ s0 := fun q => e ⟨hr, by rw [q]⟩
      exact SL1_eq (eA _) (eA _) (eA _) (fr_gi f0 (RM9_no (by omega) (by omega) (fun _ => ne))) (fr_gi f0 (RM9_no (by omega) (by omega) (fun _ => ne))) S
  · rcases J3 s hs with ⟨q, -⟩ | ⟨-, S⟩
    · exact absurd q hr
    · exact SL1_eq (gi_ne (by omega)) (gi_ne (by omega)) (gi_ne (by omega)) (gi_ne (by omega)) (gi_ne (by omega)) S
end ROW
noncomputable def half_write (h : pm_H) (x a b : Int32) : Prop := RES h ∧ x = wrv (rf h) (rm h) a b
theorem rf_fr {M : List Rng} {h h' : pm_H} (hf : fr_g M h h') (hb : slB M = true) (s : Nat) : rf h' s = rf h s ∧ rfw h' s = rfw h s ∧ rm h' s = rm h s := by
  have c2 := slB_r hb
  have e4 : gi h' 78 s = gi h 78 s := fr_gi hf (rg_no c2.1 _)
  have e5 : gi h' 79 s = gi h 79 s := fr_gi hf (rg_no c2.2 _)
  refine ⟨?_, e4, e5⟩
  unfold rf
  rw [e4]
theorem SL_cf {h : pm_H} (S : SL h) (s : Nat) (hs : s < 4) : cf h s = rf h s ∧ (¬ rf h s = 0 → cwd h s = rfw h s) ∧ cm h s = rm h s := by
  obtain ⟨S1, S2, S3⟩ := S s hs
  exact ⟨S1, fun q => S2 (fun e => q (rf_0 e)), S3⟩
section WRP
variable {h : pm_H} {x a b i j n : Int32} {v : Int64}
theorem d8_write (I : IVS h) : Sp 100 203 h [.ref 0, .int a, .int b, .long v] (fun h' r => IVh h' ∧ ∃ x : Int32, r = some (.int x) ∧ half_write h' x a b) := by
  refine Sp_le (by omega) (Sp_mono ?_ (Sp_and (top_all (as := [.ref 0, .int a, .int b, .long v]) q952 (by decide +kernel) I.1 ⟨rfl, aI _, aI _, aL _, trivial⟩) (sp_write8 (d := 0) I.1.1)))
  rintro h' r ⟨⟨s1, s2, -⟩, s3⟩
  refine ⟨s1, _, s3, RES_fr s2 rfl I.2, wrv_eq (fun s hs => ?_) (fun s hs => ?_)⟩
  · rw [(rf_fr s2 rfl s).1]
    exact (SL_cf I.2.2 s hs).1
  · rw [(rf_fr s2 rfl s).2.2]
    exact (SL_cf I.2.2 s hs).2.2
theorem d9_write (I : IVh h) (J : half_write h x a b) : Sp 100 380 h [.ref 77, .int a, .int b, .long v] (fun h' r => IVS h' ∧ r = some (.int x)) := by
  refine Sp_le (by omega) (Sp_mono ?_ (Sp_and (top_all (as := [.ref 77, .int a, .int b, .long v]) q955 (by decide +kernel) I ⟨rfl, aI _, aI _, aL _, trivial⟩) (sp_write9 (d := 0) I.1)))
  rintro h' r ⟨⟨s1, s2, -⟩, s3⟩
  obtain ⟨J1, rfl⟩ := J
  exact ⟨⟨s1, RES_fr s2 rfl J1⟩, s3⟩
noncomputable def half_paste (h : pm_H) (x a i b j n : Int32) : Prop := RES h ∧ x = pav (rf h) (rfw h) (rm h) a i b j n
theorem d8_paste (I : IVS h) : Sp 100 158 h [.ref 0, .int a, .int i, .int b, .int j, .int n] (fun h' r => IVh h' ∧ ∃ x : Int32, r = some (.int x) ∧ half_paste h' x a i b j n) := by
  refine Sp_le (by omega) (Sp_mono ?_ (sp_paste8 (d := 0) I.1.1))
  rintro h' r ⟨q1, q2, x, q3, q4⟩
  refine ⟨IVh_fr (M := PM) (by decide +kernel) q2 q1 I.1 (RV_fr I.1.1 rfl q2 I.1.2.2), x, q3, RES_fr q2 rfl I.2, (psv_pav q4).trans (pav_eq (fun s hs => ?_) (fun s hs => ?_) (fun s hs => ?_))⟩
  · rw [(rf_fr q2 rfl s).1]
    exact (SL_cf I.2.2 s hs).1
  · rw [(rf_fr q2 rfl s).1, (rf_fr q2 rfl s).2.1]
    exact (SL_cf I.2.2 s hs).2.1
  · rw [(rf_fr q2 rfl s).2.2]
    exact (SL_cf I.2.2 s hs).2.2
theorem d9_paste (I : IVh h) (J : half_paste h x a i b j n) : Sp 100 323 h [.ref 77, .int a, .int i, .int b, .int j, .int n] (fun h' r => IVS h' ∧ r = some (.int x)) := by
  refine Sp_le (by omega) (Sp_mono ?_ (Sp_and (top_all (as := [.ref 77, .int a, .int i, .int b, .int j, .int n]) q961 (by decide +kernel) I ⟨rfl, aI _, aI _, aI _, aI _, aI _, trivial⟩) (sp_paste9 (d := 0) I.1)))
  rintro h' r ⟨⟨s1, s2, -⟩, s3⟩
  obtain ⟨J1, rfl⟩ := J
  exact ⟨⟨s1, RES_fr s2 rfl J1⟩, s3⟩
end WRP
end
section
/-! the reading of a tape, told purely: tokens -/
noncomputable def upf (p : Nat → Bool) (L : Nat) : Nat → Nat → Nat
  | 0, i => i
  | n + 1, i => bif Nat.blt i L && p i then upf p L n (i + 1) else i
noncomputable def up (p : Nat → Bool) (L i : Nat) : Nat := upf p L (L - i) i
theorem up_no {p : Nat → Bool} {L i : Nat} (h : ¬ (i < L ∧ p i = true)) : up p L i = i := by
  unfold up
  cases hn : L - i with
  | zero => rfl
  | succ n =>
    show (bif Nat.blt i L && p i then upf p L n (i + 1) else i) = i
    cases hb : (Nat.blt i L && p i) with
    | false => rfl
    | true =>
      rw [Bool.and_eq_true] at hb
      exact absurd ⟨Nat.le_of_ble_eq_true hb.1, hb.2⟩ h
theorem up_go {p : Nat → Bool} {L i : Nat} (h : i < L) (hp : p i = true) : up p L i = up p L (i + 1) := by
  unfold up
  obtain ⟨n, hn⟩ : ∃ n, L - i = n + 1 := ⟨L - i - 1, by omega⟩
  rw [hn, show L - (i + 1) = n by omega]
  show (bif Nat.blt i L && p i then upf p L n (i + 1) else i) = _
  rw [show Nat.blt i L = true from Nat.ble_eq_true_of_le h, hp]
  rfl
theorem up_at {p : Nat → Bool} {L : Nat} (j : Nat) : ∀ {i : Nat}, i + j = L → i ≤ up p L i ∧ up p L i ≤ L ∧ (∀ m, i ≤ m → m < up p L i → p m = true) := by
  induction j with
  | zero =>
    intro i h
    rw [up_no (fun q => absurd q.1 (by omega))]
    exact ⟨Nat.le_refl _, by omega, fun m h1 h2 => absurd h2 (by omega)⟩
  | succ j ih =>
    intro i h
    by_cases hp : p i = true
    · rw [up_go (by omega) hp]
      obtain ⟨a, b, c⟩ := ih (i := i + 1) (by omega)
      refine ⟨by omega, b, fun m h1 h2 => ?_⟩
      by_cases e : m = i
      · rw [e]; exact hp
      · exact c m (by omega) h2
    · rw [up_no (fun q => hp q.2)]
      exact ⟨Nat.le_refl _, by omega, fun m h1 h2 => absurd h2 (by omega)⟩
theorem up_le {p : Nat → Bool} {L i : Nat} (h : i ≤ L) : i ≤ up p L i ∧ up p L i ≤ L ∧ (∀ m, i ≤ m → m < up p L i → p m = true) := up_at (L - i) (by omega)
theorem up_lt {p : Nat → Bool} {L i : Nat} (h : i < L) (hp : p i = true) : i < up p L i := by
  rw [up_go h hp]
  have := (up_le (p := p) (L := L) (i := i + 1) (by omega)).1
  omega
noncomputable def spb (b : Int32) : Bool := decide (b = 32) || decide (b = 10)
noncomputable def ltb (b : Int32) : Bool := !(decide (b < 97)) && !(decide (122 < b))
noncomputable def dgb (b : Int32) : Bool := !(decide (b < 48)) && !(decide (57 < b))
section TOK
variable (T : Nat → Int32) (L : Nat)
noncomputable def skp (i : Nat) : Nat := up (fun j => spb (T j)) L i
/-- a token's kind and end, by its start -/
noncomputable def tkk (s : Nat) : Nat := bif Nat.blt s L then (bif ltb (T s) then 1 else bif dgb (T s) then 2 else bif decide (T s = 59) then 3 else 4) else 0
noncomputable def tke (s : Nat) : Nat := bif Nat.blt s L then (bif ltb (T s) then up (fun j => ltb (T j)) L s else bif dgb (T s) then up (fun j => dgb (T j)) L s else s + 1) else s
noncomputable def nxt (s : Nat) : Nat := skp T L (tke T L s)
noncomputable def vfo (s : Nat) : Nat → Nat
  | 0 => 0
  | n + 1 => min 1000 (10 * vfo s n + ((T (s + n)).toInt.toNat - 48))
noncomputable def wfo (s : Nat) : Nat → Int
  | 0 => 0
  | n + 1 => 27 * wfo s n + ((T (s + n)).toInt - 96)
/-- a number's value, not above 1000 -/
noncomputable def tkv (s : Nat) : Nat := vfo T s (tke T L s - s)
noncomputable def wnm (s n : Nat) : Int := if n ≤ 12 then wfo T s n else -1
noncomputable def wIs (s : Nat) (W : List Int32) : Bool := decide (tkk T L s = 1) && (decide (tke T L s = s + W.length) && (List.range W.length).all (fun i => decide (T (s + i) = W.getD i 0)))
end TOK
section TOK2
variable {T : Nat → Int32} {L s : Nat}
theorem tk_0 (h : ¬ s < L) : tkk T L s = 0 ∧ tke T L s = s := by
  have e : Nat.blt s L = false := by
    cases hb : Nat.blt s L with
    | false => rfl
    | true => exact absurd (Nat.le_of_ble_eq_true hb) h
  unfold tkk tke
  rw [e]
  exact ⟨rfl, rfl⟩
theorem tk_1 (h : s < L) (h1 : ltb (T s) = true) : tkk T L s = 1 ∧ tke T L s = up (fun j => ltb (T j)) L s := by
  unfold tkk tke
  rw [show Nat.blt s L = true from Nat.ble_eq_true_of_le h, h1]
  exact ⟨rfl, rfl⟩
theorem tk_2 (h : s < L) (h1 : ltb (T s) = false) (h2 : dgb (T s) = true) : tkk T L s = 2 ∧ tke T L s = up (fun j => dgb (T j)) L s := by
  unfold tkk tke
  rw [show Nat.blt s L = true from Nat.ble_eq_true_of_le h, h1, h2]
  exact ⟨rfl, rfl⟩
theorem tk_3 (h : s < L) (h1 : ltb (T s) = false) (h2 : dgb (T s) = false) (h3 : T s = 59) : tkk T L s = 3 ∧ tke T L s = s + 1 := by
  unfold tkk tke
  rw [show Nat.blt s L = true from Nat.ble_eq_true_of_le h, h1, h2, decide_eq_true h3]
  exact ⟨rfl, rfl⟩
theorem tk_4 (h : s < L) (h1 : ltb (T s) = false) (h2 : dgb (T s) = false) (h3 : ¬ T s = 59) : tkk T L s = 4 ∧ tke T L s = s + 1 := by
  unfold tkk tke
  rw [show Nat.blt s L = true from Nat.ble_eq_true_of_le h, h1, h2, decide_eq_false h3]
  exact ⟨rfl, rfl⟩
theorem tke_le (h : s ≤ L) : s ≤ tke T L s ∧ tke T L s ≤ L ∧ (s < L → s < tke T L s) := by
  by_cases hs : s < L
  · cases h1 : ltb (T s) with
    | true =>
      rw [(tk_1 hs h1).2]
      have a := up_le (p := fun j => ltb (T j)) h
      exact ⟨a.1, a.2.1, fun _ => up_lt (p := fun j => ltb (T j)) hs h1⟩
    | false =>
      cases h2 : dgb (T s) with
      | true =>
        rw [(tk_2 hs h1 h2).2]
        have a := up_le (p := fun j => dgb (T j)) h
        exact ⟨a.1, a.2.1, fun _ => up_lt (p := fun j => dgb (T j)) hs h2⟩
      | false =>
        by_cases h3 : T s = 59
        · rw [(tk_3 hs h1 h2 h3).2]
          omega
        · rw [(tk_4 hs h1 h2 h3).2]
          omega
  · rw [(tk_0 hs).2]
    omega
theorem tkk_le : tkk T L s ≤ 4 := by
  by_cases hs : s < L
  · cases h1 : ltb (T s) with
    | true => rw [(tk_1 hs h1).1]; omega
    | false =>
      cases h2 : dgb (T s) with
      | true => rw [(tk_2 hs h1 h2).1]; omega
      | false =>
        by_cases h3 : T s = 59
        · rw [(tk_3 hs h1 h2 h3).1]; omega
        · rw [(tk_4 hs h1 h2 h3).1]; omega
  · rw [(tk_0 hs).1]; omega
theorem tkk_lt (h : tkk T L s ≠ 0) : s < L := Classical.byContradiction (fun q => h (tk_0 q).1)
theorem tkk_ne (h : s < L) : tkk T L s ≠ 0 := by
  cases h1 : ltb (T s) with
  | true => rw [(tk_1 h h1).1]; omega
  | false =>
    cases h2 : dgb (T s) with
    | true => rw [(tk_2 h h1 h2).1]; omega
    | false =>
      by_cases h3 : T s = 59
      · rw [(tk_3 h h1 h2 h3).1]; omega
      · rw [(tk_4 h h1 h2 h3).1]; omega
theorem skp_le {i : Nat} (h : i ≤ L) : i ≤ skp T L i ∧ skp T L i ≤ L := ⟨(up_le h).1, (up_le h).2.1⟩
theorem nxt_le (h : s ≤ L) : s ≤ nxt T L s ∧ nxt T L s ≤ L ∧ (s < L → s < nxt T L s) := by
  have a := tke_le (T := T) h
  have b := skp_le (T := T) a.2.1
  unfold nxt
  exact ⟨by omega, b.2, fun q => by have := a.2.2 q; omega⟩
theorem ltb_iff {b : Int32} : ltb b = true ↔ 97 ≤ b.toInt ∧ b.toInt ≤ 122 := by
  have z1 : (97 : Int32).toInt = 97 := rfl
  have z2 : (122 : Int32).toInt = 122 := rfl
  unfold ltb
  rw [Bool.and_eq_true, Bool.not_eq_true', Bool.not_eq_true', decide_eq_false_iff_not, decide_eq_false_iff_not, Int32.lt_iff_toInt_lt, Int32.lt_iff_toInt_lt]
  omega
theorem dgb_iff {b : Int32} : dgb b = true ↔ 48 ≤ b.toInt ∧ b.toInt ≤ 57 := by
  have z1 : (48 : Int32).toInt = 48 := rfl
  have z2 : (57 : Int32).toInt = 57 := rfl
  unfold dgb
  rw [Bool.and_eq_true, Bool.not_eq_true', Bool.not_eq_true', decide_eq_false_iff_not, decide_eq_false_iff_not, Int32.lt_iff_toInt_lt, Int32.lt_iff_toInt_lt]
  omega
theorem tok1_all (h : tkk T L s = 1) : s < L ∧ ∀ m, s ≤ m → m < tke T L s → ltb (T m) = true := by
  have hs := tkk_lt (T := T) (L := L) (s := s) (by omega)
  refine ⟨hs, ?_⟩
  cases h1 : ltb (T s) with
  | true =>
    rw [(tk_1 hs h1).2]
    exact (up_le (p := fun j => ltb (T j)) (Nat.le_of_lt hs)).2.2
  | false =>
    cases h2 : dgb (T s) with
    | true => rw [(tk_2 hs h1 h2).1] at h; omega
    | false =>
      by_cases h3 : T s = 59
      · rw [(tk_3 hs h1 h2 h3).1] at h; omega
      · rw [(tk_4 hs h1 h2 h3).1] at h; omega
/-- what a reader keeps of a number -/
noncomputable def Vr (v c : Nat) : Prop := (v = c ∧ c < 1000) ∨ (1000 ≤ v ∧ c = 1000)
theorem Vr_bd {v c lo hi : Nat} (h : Vr v c) (hh : hi < 1000) : (lo ≤ v ∧ v ≤ hi) ↔ (lo ≤ c ∧ c ≤ hi) := by
  rcases h with ⟨h1, h2⟩ | ⟨h1, h2⟩ <;> omega
theorem Vr_eq {v c hi : Nat} (h : Vr v c) (hh : hi < 1000) (hc : c ≤ hi) : v = c := by
  rcases h with ⟨h1, h2⟩ | ⟨h1, h2⟩ <;> omega
theorem wfo_ge {s n : Nat} (h : ∀ i, i < n → ltb (T (s + i)) = true) : 0 ≤ wfo T s n := by
  induction n with
  | zero => exact Int.le_refl _
  | succ n ih =>
    have a := ih (fun i hi => h i (by omega))
    have b := ltb_iff.mp (h n (by omega))
    show 0 ≤ 27 * wfo T s n + ((T (s + n)).toInt - 96)
    omega
theorem wfo_inj {T' : Nat → Int32} {s' : Nat} : ∀ {n m : Nat}, (∀ i, i < n → ltb (T (s + i)) = true) → (∀ i, i < m → ltb (T' (s' + i)) = true) → wfo T s n = wfo T' s' m → n = m ∧ ∀ i, i < n → T (s + i) = T' (s' + i)
  | 0, 0, _, _, _ => ⟨rfl, fun i hi => absurd hi (Nat.not_lt_zero i)⟩
  | 0, m + 1, _, h2, e => by
    have a := wfo_ge (fun i hi => h2 i (Nat.lt_succ_of_lt hi))
    have b := ltb_iff.mp (h2 m (Nat.lt_succ_self m))
    have e : (0 : Int) = 27 * wfo T' s' m + ((T' (s' + m)).toInt - 96) := e
    omega
  | n + 1, 0, h1, _, e => by
    have a := wfo_ge (fun i hi => h1 i (Nat.lt_succ_of_lt hi))
    have b := ltb_iff.mp (h1 n (Nat.lt_succ_self n))
    have e : 27 * wfo T s n + ((T (s + n)).toInt - 96) = 0 := e
    omega
  | n + 1, m + 1, h1, h2, e => by
    have a := ltb_iff.mp (h1 n (Nat.lt_succ_self n))
    have b := ltb_iff.mp (h2 m (Nat.lt_succ_self m))
    have e : 27 * wfo T s n + ((T (s + n)).toInt - 96) = 27 * wfo T' s' m + ((T' (s' + m)).toInt - 96) := e
    have e1 : (T (s + n)).toInt = (T' (s' + m)).toInt := by omega
    obtain ⟨q1, q2⟩ := wfo_inj (n := n) (m := m) (fun i hi => h1 i (Nat.lt_succ_of_lt hi)) (fun i hi => h2 i (Nat.lt_succ_of_lt hi)) (by omega)
    subst q1
    refine ⟨rfl, fun i hi => ?_⟩
    by_cases z : i = n
    · subst z
      exact Int32.toInt_inj.mp e1
    · exact q2 i (by omega)
theorem wIs_iff {W : List Int32} : wIs T L s W = true ↔ tkk T L s = 1 ∧ tke T L s = s + W.length ∧ ∀ i, i < W.length → T (s + i) = W.getD i 0 := by
  unfold wIs
  rw [Bool.and_eq_true, Bool.and_eq_true, decide_eq_true_iff, decide_eq_true_iff, List.all_eq_true]
  constructor
  · rintro ⟨h1, h2, h3⟩
    exact ⟨h1, h2, fun i hi => of_decide_eq_true (h3 i (List.mem_range.mpr hi))⟩
  · rintro ⟨h1, h2, h3⟩
    exact ⟨h1, h2, fun i hi => decide_eq_true (h3 i (List.mem_range.mp hi))⟩
/-- a word is the word whose number it has -/
theorem wIs_num {W : List Int32} (h : tkk T L s = 1) (hW : ∀ i, i < W.length → ltb (W.getD i 0) = true) (h12 : W.length ≤ 12) : wIs T L s W = true ↔ wnm T s (tke T L s - s) = wfo (fun i => W.getD i 0) 0 W.length := by
  obtain ⟨hs, ha⟩ := tok1_all h
  have he := tke_le (T := T) (Nat.le_of_lt hs)
  have hA : ∀ i, i < tke T L s - s → ltb (T (s + i)) = true := fun i hi => ha _ (by omega) (by omega)
  have hB : ∀ i, i < W.length → ltb ((fun i => W.getD i 0) (0 + i)) = true := fun i hi => by
    show ltb (W.getD (0 + i) 0) = true
    rw [Nat.zero_add]
    exact hW i hi
  rw [wIs_iff]
  constructor
  · rintro ⟨-, h2, h3⟩
    have e : tke T L s - s = W.length := by omega
    rw [e]
    unfold wnm
    rw [if_pos h12]
    have : ∀ n, n ≤ W.length → wfo T s n = wfo (fun i => W.getD i 0) 0 n := by
      intro n
      induction n with
      | zero => intro _; rfl
      | succ n ih =>
        intro hn
        show 27 * wfo T s n + ((T (s + n)).toInt - 96) = 27 * wfo (fun i => W.getD i 0) 0 n + ((W.getD (0 + n) 0).toInt - 96)
        rw [ih (by omega), h3 n (by omega), Nat.zero_add]
    exact this _ (Nat.le_refl _)
  · intro e
    unfold wnm at e
    split at e
    · obtain ⟨q1, q2⟩ := wfo_inj (T := T) (s := s) (T' := fun i => W.getD i 0) (s' := 0) (n := tke T L s - s) (m := W.length) hA hB e
      refine ⟨h, by omega, fun i hi => ?_⟩
      have := q2 i (by omega)
      rw [Nat.zero_add] at this
      exact this
    · have := wfo_ge (T := fun i => W.getD i 0) (s := 0) hB
      omega
end TOK2
end
section
/-! the class's tokens (wants t40, t25, t29's obj lemmas, E_bal) -/
noncomputable def TA (T : Nat → Int32) (L : Nat) (h : pm_H) : Prop := HH h ∧ gi h 1 1 = nJ L ∧ L ≤ 500 ∧ ∀ j, j < L → gi h 2 j = T j
theorem gi_ptn {h : pm_H} {a k v : Nat} {lo hi : Int} (hh : HH h) (hb : bd a k = some (lo, hi)) (hv : v < 2147483648) (h1 : lo ≤ (v : Int)) (h2 : (v : Int) ≤ hi) : gi (pt h a k (nJ v)) a k = nJ v := gi_pt hh hb (by rw [nJ_toInt hv]; exact h1) (by rw [nJ_toInt hv]; exact h2)
theorem TA_pt {T : Nat → Int32} {L a k : Nat} {v : Int32} {h : pm_H} (A : TA T L h) (ha : 3 ≤ a) (hh : HH (pt h a k v)) : TA T L (pt h a k v) := ⟨hh, by rw [gi_ne (by omega)]; exact A.2.1, A.2.2.1, fun j hj => by rw [gi_ne (by omega)]; exact A.2.2.2 j hj⟩
theorem TA_fr {T : Nat → Int32} {L : Nat} {M : List Rng} {h h' : pm_H} (hf : fr_g M h h') (h1 : M.all (fun r => !(Nat.beq r.1 1)) = true) (h2 : M.all (fun r => !(Nat.beq r.1 2)) = true) (hh : HH h') (A : TA T L h) : TA T L h' := ⟨hh, by rw [fr_gi hf (rg_no h1 _)]; exact A.2.1, A.2.2.1, fun j hj => by rw [fr_gi hf (rg_no h2 _)]; exact A.2.2.2 j hj⟩
section CTK
variable {look : Nat → Option pm_I} {call : pm_Call} {Q : pm_H → Option Value → Prop} {pc n1 n2 n3 n4 n5 n6 i f : Nat} {lv : List (Nat × Value)} {st : List Value} {h : pm_H} {z : Nat × Nat} {T : Nat → Int32} {L : Nat}
theorem E_rlen (h1 : look pc = some (.inl (s_al 0 n1))) (h2 : look n1 = some (.inl (s_getf 2 3 n2))) (h3 : look n2 = some (.inl (s_getf 6 1 n3))) (L0 : pm_get lv 0 = some (.ref 3)) (A : TA T L h) (k : Ends look call (n3, lv, .int (nJ L) :: st, h, z) Q) : Ends look call (pc, lv, st, h, z) Q :=
  E_al h1 L0 (E_ogr (q := 1) h2 A.1 rfl rfl (E_ogf (q := (0, 500)) h3 A.1 rfl rfl A.2.1 k))
theorem E_rbyt (h1 : look pc = some (.inl (s_al 0 n1))) (h2 : look n1 = some (.inl (s_getf 2 3 n2))) (h3 : look n2 = some (.inl (s_getf 6 0 n3))) (h4 : look n3 = some (.inl (s_al 0 n4))) (h5 : look n4 = some (.inl (s_getf 2 f n5))) (h6 : look n5 = some (.inl (s_bald n6))) (L0 : pm_get lv 0 = some (.ref 3)) (A : TA T L h) (hb : bd 3 f = some (0, 500)) (e : gi h 3 f = nJ i) (hi : i < L) (k : Ends look call (n6, lv, .int (T i) :: st, h, z) Q) : Ends look call (pc, lv, st, h, z) Q := by
  have h5' := A.2.2.1
  refine E_al h1 L0 ?_
  refine E_ogr (q := 1) h2 A.1 rfl rfl ?_
  refine E_ogr (q := 2) h3 A.1 rfl rfl ?_
  refine E_al h4 L0 ?_
  refine E_ogf h5 A.1 rfl hb e ?_
  refine E_bal (a := 2) (len := 500) h6 A.1 rfl (by omega) (by decide) ?_
  rw [A.2.2.2 i hi]
  exact k
theorem E_rinc (h1 : look pc = some (.inl (s_al 0 n1))) (h2 : look n1 = some (.inl (s_dup n2))) (h3 : look n2 = some (.inl (s_getf 2 7 n3))) (h4 : look n3 = some (.inl (s_const (.int 1) n4))) (h5 : look n4 = some (.inl (s_bin (fun x y => x + y) n5))) (h6 : look n5 = some (.inl (s_putf 2 7 .int n6))) (L0 : pm_get lv 0 = some (.ref 3)) (hh : HH h) (e : gi h 3 7 = nJ i) (k : Ends look call (n6, lv, st, pt h 3 7 (nJ (i + 1)), z) Q) : Ends look call (pc, lv, st, h, z) Q :=
  E_al h1 L0 (E_dup h2 rfl (E_ogf (q := (0, 500)) h3 hh rfl rfl e (E_ci 1 h4 (by decide) (E_bin h5 (nJ_add i 1) (E_opf (q := (0, 500)) h6 hh rfl rfl k)))))
end CTK
section CLS
variable {h : pm_H} {d : Nat} {b : Int32}
theorem ltb_lo (b1 : b < 97) : ltb b = false := by unfold ltb; rw [decide_eq_true b1]; rfl
theorem ltb_hi (b2 : 122 < b) : ltb b = false := by unfold ltb; rw [decide_eq_true b2]; exact Bool.and_false _
theorem ltb_in (b1 : ¬ b < 97) (b2 : ¬ 122 < b) : ltb b = true := by unfold ltb; rw [decide_eq_false b1, decide_eq_false b2]; rfl
theorem dgb_lo (b1 : b < 48) : dgb b = false := by unfold dgb; rw [decide_eq_true b1]; rfl
theorem dgb_hi (b2 : 57 < b) : dgb b = false := by unfold dgb; rw [decide_eq_true b2]; exact Bool.and_false _
theorem dgb_in (b1 : ¬ b < 48) (b2 : ¬ 57 < b) : dgb b = true := by unfold dgb; rw [decide_eq_false b1, decide_eq_false b2]; rfl
theorem zb_no {p : Bool} (e : p = false) : zb (p = true) = nJ 0 := zb_F (by rw [e]; decide)
theorem sp_isLetter : Sp (d + 1) 28 h [.int b] (fun h' r => h' = h ∧ r = some (.int (zb (ltb b = true)))) := by
  refine Sp_of aiX2_isLetter rfl rfl rfl ?_
  have L0 : pm_get (lv_args 0 [.int b]) 0 = some (.int b) := rfl
  generalize lv_args 0 [.int b] = lv at L0 ⊢
  refine E_il rfl L0 ?_
  refine E_c rfl ?_
  by_cases b1 : b < 97
  · refine E_icT rfl (decide_eq_true b1) ?_
    refine E_ci 0 rfl (by decide) ?_
    exact E_rtz rfl (.inl rfl) ⟨rfl, by rw [zb_no (ltb_lo b1)]⟩
  refine E_icF rfl (decide_eq_false b1) ?_
  refine E_il rfl L0 ?_
  refine E_c rfl ?_
  by_cases b2 : 122 < b
  · refine E_icT rfl (decide_eq_true b2) ?_
    refine E_ci 0 rfl (by decide) ?_
    exact E_rtz rfl (.inl rfl) ⟨rfl, by rw [zb_no (ltb_hi b2)]⟩
  refine E_icF rfl (decide_eq_false b2) ?_
  refine E_ci 1 rfl (by decide) ?_
  refine E_goto rfl ?_
  exact E_rtz rfl (.inr rfl) ⟨rfl, by rw [zb_T (ltb_in b1 b2)]⟩
theorem sp_isDigit : Sp (d + 1) 27 h [.int b] (fun h' r => h' = h ∧ r = some (.int (zb (dgb b = true)))) := by
  refine Sp_of aiX2_isDigit rfl rfl rfl ?_
  have L0 : pm_get (lv_args 0 [.int b]) 0 = some (.int b) := rfl
  generalize lv_args 0 [.int b] = lv at L0 ⊢
  refine E_il rfl L0 ?_
  refine E_c rfl ?_
  by_cases b1 : b < 48
  · refine E_icT rfl (decide_eq_true b1) ?_
    refine E_ci 0 rfl (by decide) ?_
    exact E_rtz rfl (.inl rfl) ⟨rfl, by rw [zb_no (dgb_lo b1)]⟩
  refine E_icF rfl (decide_eq_false b1) ?_
  refine E_il rfl L0 ?_
  refine E_c rfl ?_
  by_cases b2 : 57 < b
  · refine E_icT rfl (decide_eq_true b2) ?_
    refine E_ci 0 rfl (by decide) ?_
    exact E_rtz rfl (.inl rfl) ⟨rfl, by rw [zb_no (dgb_hi b2)]⟩
  refine E_icF rfl (decide_eq_false b2) ?_
  refine E_ci 1 rfl (by decide) ?_
  refine E_goto rfl ?_
  exact E_rtz rfl (.inr rfl) ⟨rfl, by rw [zb_T (dgb_in b1 b2)]⟩
end CLS
/-- the token that the class's reader is at -/
noncomputable def CT (T : Nat → Int32) (L s : Nat) (h : pm_H) : Prop := gi h 3 6 = nJ s ∧ gi h 3 7 = nJ (tke T L s) ∧ gi h 3 5 = nJ (tkk T L s) ∧ (tkk T L s = 2 → ∃ v, v ≤ 9999 ∧ gi h 3 8 = nJ v ∧ Vr v (tkv T L s))
theorem Vr_c1 {v c d : Nat} (h : Vr v c) (hv : v < 1000) : Vr (10 * v + d) (min 1000 (10 * c + d)) := by
  unfold Vr at *
  omega
theorem Vr_c2 {v c d : Nat} (h : Vr v c) (hv : 1000 ≤ v) : Vr v (min 1000 (10 * c + d)) := by
  unfold Vr at *
  omega
theorem Vr_c3 {v c d : Nat} (h : Vr v c) : Vr (10 * v + d) (min 1000 (10 * c + d)) := by
  unfold Vr at *
  omega
section CTL
variable {T : Nat → Int32} {L d : Nat}
theorem rdl_loop (j : Nat) : ∀ {h : pm_H} {i : Nat} (lv : List (Nat × Value)), i + j = L → TA T L h → gi h 3 7 = nJ i → pm_get lv 0 = some (.ref 3) → Ends (pm_at tX2_readLetters) (pm_Rt pm_P (d + 1)) (5, lv, [], h, 0, 0) (fun h' r => r = none ∧ HH h' ∧ fr_g [(3, 7, 7)] h h' ∧ gi h' 3 7 = nJ (up (fun j => ltb (T j)) L i)) := by
  induction j with
  | zero =>
    intro h i lv hj A g L0
    have h5 := A.2.2.1
    refine E_al rfl L0 ?_
    refine E_ogf (q := (0, 500)) rfl A.1 rfl rfl g ?_
    refine E_rlen rfl rfl rfl L0 A ?_
    refine E_icT rfl (decide_eq_true ((nJ_le (by omega) (by omega)).mpr (by omega))) ?_
    rw [up_no (L := L) (i := i) (fun q => absurd q.1 (by omega))]
    exact E_ret rfl ⟨rfl, A.1, fr_rf _ _, g⟩
  | succ j ih =>
    intro h i lv hj A g L0
    have h5 := A.2.2.1
    refine E_al rfl L0 ?_
    refine E_ogf (q := (0, 500)) rfl A.1 rfl rfl g ?_
    refine E_rlen rfl rfl rfl L0 A ?_
    refine E_icF rfl (decide_eq_false (fun q => absurd ((nJ_le (by omega) (by omega)).mp q) (by omega))) ?_
    refine E_rbyt rfl rfl rfl rfl rfl rfl L0 A rfl g (by omega) ?_
    refine E_call rfl (sp_isLetter (d := d)) (chkS rfl (by show 0 ≤ 8; decide)) (fun h1 r1 => ?_)
    rintro ⟨e1, f1⟩
    rw [e1, f1]
    by_cases b : ltb (T i) = true
    · refine E_ifF rfl (by rw [zb_T b]; rfl) ?_
      refine E_rinc rfl rfl rfl rfl rfl rfl L0 A.1 g ?_
      refine E_goto rfl ?_
      have hh1 : HH (pt h 3 7 (nJ (i + 1))) := HH_ptn A.1 rfl (by omega) (by omega) (by omega)
      refine Ends_mono ?_ (ih lv (i := i + 1) (by omega) (TA_pt A (by omega) hh1) (gi_ptn A.1 rfl (by omega) (by omega) (by omega)) L0)
      rintro h' r ⟨q1, q2, q3, q4⟩
      refine ⟨q1, q2, fr_trans (fr_ptr (l := 7) (u := 7) rfl (by omega) (by omega) (fr_rf _ _)) q3, ?_⟩
      rw [up_go (p := fun j => ltb (T j)) (by omega) b]
      exact q4
    · refine E_ifT rfl (by rw [zb_F b]; rfl) ?_
      rw [up_no (L := L) (i := i) (fun q => b q.2)]
      exact E_ret rfl ⟨rfl, A.1, fr_rf _ _, g⟩
theorem sp_readLetters {h : pm_H} {i : Nat} (A : TA T L h) (hi : i ≤ L) (g : gi h 3 7 = nJ i) : Sp (d + 2) 34 h [.ref 3] (fun h' r => r = none ∧ HH h' ∧ fr_g [(3, 5, 5), (3, 7, 7)] h h' ∧ gi h' 3 5 = nJ 1 ∧ gi h' 3 7 = nJ (up (fun j => ltb (T j)) L i)) := by
  refine Sp_of aiX2_readLetters rfl rfl rfl ?_
  have L0 : pm_get (lv_args 0 [.ref 3]) 0 = some (.ref 3) := rfl
  generalize lv_args 0 [.ref 3] = lv at L0 ⊢
  refine E_al rfl L0 ?_
  refine E_ci 1 rfl (by decide) ?_
  refine E_opf (q := (0, 4)) rfl A.1 rfl rfl ?_
  have hh1 : HH (pt h 3 5 (nJ 1)) := HH_ptn A.1 rfl (by omega) (by omega) (by omega)
  refine Ends_mono ?_ (rdl_loop (d := d) (L - i) lv (i := i) (by omega) (TA_pt A (by omega) hh1) (by rw [gi_ne (by omega)]; exact g) L0)
  rintro h' r ⟨q1, q2, q3, q4⟩
  refine ⟨q1, q2, fr_trans (fr_ptr (l := 5) (u := 5) rfl (by omega) (by omega) (fr_rf _ _)) (fr_wk rfl q3), ?_, q4⟩
  rw [fr_gi q3 rfl]
  exact gi_ptn A.1 rfl (by omega) (by omega) (by omega)
theorem rdd_loop {s : Nat} (j : Nat) : ∀ {h : pm_H} {i m v : Nat} (lv : List (Nat × Value)), i + j = L → s + m = i → TA T L h → gi h 3 7 = nJ i → gi h 3 8 = nJ v → v ≤ 9999 → Vr v (vfo T s m) → pm_get lv 0 = some (.ref 3) → Ends (pm_at tX2_readDigits) (pm_Rt pm_P (d + 1)) (10, lv, [], h, 0, 0) (fun h' r => r = none ∧ HH h' ∧ fr_g [(3, 7, 8)] h h' ∧ gi h' 3 7 = nJ (up (fun j => dgb (T j)) L i) ∧ ∃ v, v ≤ 9999 ∧ gi h' 3 8 = nJ v ∧ Vr v (vfo T s (up (fun j => dgb (T j)) L i - s))) := by
  induction j with
  | zero =>
    intro h i m v lv hj hm A g g8 hv hV L0
    have h5 := A.2.2.1
    refine E_al rfl L0 ?_
    refine E_ogf (q := (0, 500)) rfl A.1 rfl rfl g ?_
    refine E_rlen rfl rfl rfl L0 A ?_
    refine E_icT rfl (decide_eq_true ((nJ_le (by omega) (by omega)).mpr (by omega))) ?_
    rw [up_no (L := L) (i := i) (fun q => absurd q.1 (by omega)), show i - s = m by omega]
    exact E_ret rfl ⟨rfl, A.1, fr_rf _ _, g, v, hv, g8, hV⟩
  | succ j ih =>
    intro h i m v lv hj hm A g g8 hv hV L0
    have h5 := A.2.2.1
    refine E_al rfl L0 ?_
    refine E_ogf (q := (0, 500)) rfl A.1 rfl rfl g ?_
    refine E_rlen rfl rfl rfl L0 A ?_
    refine E_icF rfl (decide_eq_false (fun q => absurd ((nJ_le (by omega) (by omega)).mp q) (by omega))) ?_
    refine E_rbyt rfl rfl rfl rfl rfl rfl L0 A rfl g (by omega) ?_
    refine E_call rfl (sp_isDigit (d := d)) (chkS rfl (by show 0 ≤ 8; decide)) (fun h1 r1 => ?_)
    rintro ⟨e1, f1⟩
    rw [e1, f1]
    by_cases b : dgb (T i) = true
    · have hd := dgb_iff.mp b
      refine E_ifF rfl (by rw [zb_T b]; rfl) ?_
      have vs : vfo T s (m + 1) = min 1000 (10 * vfo T s m + ((T i).toInt.toNat - 48)) := by rw [← hm]; rfl
      have eT : T i = nJ (T i).toInt.toNat := nJ_of (by omega)
      rw [up_go (p := fun j => dgb (T j)) (by omega) b]
      refine E_al rfl L0 ?_
      refine E_ogf rfl A.1 rfl rfl g8 ?_
      refine E_ci 1000 rfl (by decide) ?_
      by_cases b2 : 1000 ≤ v
      · refine E_icT rfl (decide_eq_true ((nJ_le (by omega) (by omega)).mpr b2)) ?_
        refine E_rinc rfl rfl rfl rfl rfl rfl L0 A.1 g ?_
        refine E_goto rfl ?_
        have hh1 : HH (pt h 3 7 (nJ (i + 1))) := HH_ptn A.1 rfl (by omega) (by omega) (by omega)
        refine Ends_mono ?_ (ih lv (i := i + 1) (m := m + 1) (by omega) (by omega) (TA_pt A (by omega) hh1) (gi_ptn A.1 rfl (by omega) (by omega) (by omega)) (by rw [gi_ne (by omega)]; exact g8) hv (by rw [vs]; exact Vr_c2 hV b2) L0)
        rintro h' r ⟨q1, q2, q3, q4⟩
        exact ⟨q1, q2, fr_trans (fr_ptr (l := 7) (u := 8) rfl (by omega) (by omega) (fr_rf _ _)) q3, q4⟩
      · refine E_icF rfl (decide_eq_false (fun q => b2 ((nJ_le (by omega) (by omega)).mp q))) ?_
        refine E_al rfl L0 ?_
        refine E_ci 10 rfl (by decide) ?_
        refine E_al rfl L0 ?_
        refine E_ogf rfl A.1 rfl rfl g8 ?_
        refine E_bin rfl (nJ_mul _ _) ?_
        refine E_rbyt rfl rfl rfl rfl rfl rfl L0 A rfl g (by omega) ?_
        refine E_bin (v := nJ (10 * v + (T i).toInt.toNat)) rfl (by rw [← nJ_add, ← eT]) ?_
        refine E_ci 48 rfl (by decide) ?_
        refine E_bin rfl (nJ_sub (by omega)) ?_
        refine E_opf rfl A.1 rfl rfl ?_
        have ev : 10 * v + (T i).toInt.toNat - 48 = 10 * v + ((T i).toInt.toNat - 48) := by omega
        rw [ev]
        have hh0 : HH (pt h 3 8 (nJ (10 * v + ((T i).toInt.toNat - 48)))) := HH_ptn A.1 rfl (by omega) (by omega) (by omega)
        have A0 := TA_pt A (by omega) hh0
        have g0 : gi (pt h 3 8 (nJ (10 * v + ((T i).toInt.toNat - 48)))) 3 7 = nJ i := by rw [gi_ne (by omega)]; exact g
        refine E_rinc rfl rfl rfl rfl rfl rfl L0 hh0 g0 ?_
        refine E_goto rfl ?_
        have hh1 : HH (pt (pt h 3 8 (nJ (10 * v + ((T i).toInt.toNat - 48)))) 3 7 (nJ (i + 1))) := HH_ptn hh0 rfl (by omega) (by omega) (by omega)
        refine Ends_mono ?_ (ih lv (i := i + 1) (m := m + 1) (v := 10 * v + ((T i).toInt.toNat - 48)) (by omega) (by omega) (TA_pt A0 (by omega) hh1) (gi_ptn hh0 rfl (by omega) (by omega) (by omega)) (by rw [gi_ne (by omega)]; exact gi_ptn A.1 rfl (by omega) (by omega) (by omega)) (by omega) (by rw [vs]; exact Vr_c1 hV (by omega)) L0)
        rintro h' r ⟨q1, q2, q3, q4⟩
        exact ⟨q1, q2, fr_trans (fr_ptr (l := 7) (u := 8) rfl (by omega) (by omega) (fr_ptr (l := 7) (u := 8) rfl (by omega) (by omega) (fr_rf _ _))) q3, q4⟩
    · refine E_ifT rfl (by rw [zb_F b]; rfl) ?_
      rw [up_no (L := L) (i := i) (fun q => b q.2), show i - s = m by omega]
      exact E_ret rfl ⟨rfl, A.1, fr_rf _ _, g, v, hv, g8, hV⟩
theorem sp_readDigits {h : pm_H} {i : Nat} (A : TA T L h) (hi : i ≤ L) (g : gi h 3 7 = nJ i) : Sp (d + 2) 31 h [.ref 3] (fun h' r => r = none ∧ HH h' ∧ fr_g [(3, 5, 5), (3, 7, 8)] h h' ∧ gi h' 3 5 = nJ 2 ∧ gi h' 3 7 = nJ (up (fun j => dgb (T j)) L i) ∧ ∃ v, v ≤ 9999 ∧ gi h' 3 8 = nJ v ∧ Vr v (vfo T i (up (fun j => dgb (T j)) L i - i))) := by
  refine Sp_of aiX2_readDigits rfl rfl rfl ?_
  have L0 : pm_get (lv_args 0 [.ref 3]) 0 = some (.ref 3) := rfl
  generalize lv_args 0 [.ref 3] = lv at L0 ⊢
  refine E_al rfl L0 ?_
  refine E_ci 2 rfl (by decide) ?_
  refine E_opf (q := (0, 4)) rfl A.1 rfl rfl ?_
  have hh1 : HH (pt h 3 5 (nJ 2)) := HH_ptn A.1 rfl (by omega) (by omega) (by omega)
  have A1 := TA_pt A (by omega) hh1
  refine E_al rfl L0 ?_
  refine E_ci 0 rfl (by decide) ?_
  refine E_opf rfl hh1 rfl rfl ?_
  have hh2 : HH (pt (pt h 3 5 (nJ 2)) 3 8 (nJ 0)) := HH_ptn hh1 rfl (by omega) (by omega) (by omega)
  refine Ends_mono ?_ (rdd_loop (d := d) (s := i) (L - i) lv (i := i) (m := 0) (v := 0) (by omega) (by omega) (TA_pt A1 (by omega) hh2) (by rw [gi_ne (by omega), gi_ne (by omega)]; exact g) (gi_ptn hh1 rfl (by omega) (by omega) (by omega)) (by omega) (.inl ⟨rfl, by show (0 : Nat) < 1000; omega⟩) L0)
  rintro h' r ⟨q1, q2, q3, q4, q5⟩
  refine ⟨q1, q2, fr_trans (fr_ptr (l := 7) (u := 8) rfl (by omega) (by omega) (fr_ptr (l := 5) (u := 5) rfl (by omega) (by omega) (fr_rf _ _))) (fr_wk rfl q3), ?_, q4, q5⟩
  rw [fr_gi q3 rfl, gi_ne (by omega)]
  exact gi_ptn A.1 rfl (by omega) (by omega) (by omega)
theorem rdt_tail {h : pm_H} {i : Nat} (lv : List (Nat × Value)) (A : TA T L h) (hi : i ≤ L) (g : gi h 3 7 = nJ i) (L0 : pm_get lv 0 = some (.ref 3)) : Ends (pm_at tX2_readToken) (pm_Rt pm_P (d + 2)) (61, lv, [], h, 0, 0) (fun h' r => r = none ∧ HH h' ∧ fr_g [(3, 5, 8)] h h' ∧ CT T L i h') := by
  have h5 := A.2.2.1
  refine E_al rfl L0 ?_
  refine E_al rfl L0 ?_
  refine E_ogf (q := (0, 500)) rfl A.1 rfl rfl g ?_
  refine E_opf (q := (0, 500)) rfl A.1 rfl rfl ?_
  have hh1 : HH (pt h 3 6 (nJ i)) := HH_ptn A.1 rfl (by omega) (by omega) (by omega)
  have A1 := TA_pt A (by omega) hh1
  have g6 : gi (pt h 3 6 (nJ i)) 3 6 = nJ i := gi_ptn A.1 rfl (by omega) (by omega) (by omega)
  have g7 : gi (pt h 3 6 (nJ i)) 3 7 = nJ i := by rw [gi_ne (by omega)]; exact g
  have f1 : fr_g [(3, 5, 8)] h (pt h 3 6 (nJ i)) := fr_ptr (l := 5) (u := 8) rfl (by omega) (by omega) (fr_rf _ _)
  generalize pt h 3 6 (nJ i) = h1 at hh1 A1 g6 g7 f1 ⊢
  refine E_al rfl L0 ?_
  refine E_ogf (q := (0, 500)) rfl hh1 rfl rfl g6 ?_
  refine E_rlen rfl rfl rfl L0 A1 ?_
  by_cases b0 : i < L
  · refine E_icT rfl (decide_eq_true ((nJ_lt (by omega) (by omega)).mpr b0)) ?_
    refine E_rbyt rfl rfl rfl rfl rfl rfl L0 A1 rfl g6 b0 ?_
    refine E_call rfl (sp_isLetter (d := d + 1)) (chkS rfl (by show 0 ≤ 8; decide)) (fun h2 r2 => ?_)
    rintro ⟨e2, f2⟩
    rw [e2, f2]
    by_cases b1 : ltb (T i) = true
    · refine E_ifF rfl (by rw [zb_T b1]; rfl) ?_
      refine E_al rfl L0 ?_
      refine E_call rfl (sp_readLetters (d := d) A1 hi g7) (chkO (a := 3) hh1 rfl rfl rfl rfl (by show 0 ≤ 8; decide)) (fun h3 r3 => ?_)
      rintro ⟨e3, q2, q3, q4, q5⟩
      rw [e3]
      refine E_goto rfl ?_
      have k := tk_1 (T := T) b0 b1
      refine E_ret rfl ⟨rfl, q2, fr_trans f1 (fr_wk rfl q3), ?_, ?_, ?_, fun q => absurd q (by rw [k.1]; omega)⟩
      · rw [fr_gi q3 rfl]; exact g6
      · rw [q5, k.2]
      · rw [q4, k.1]
    · have b1' : ltb (T i) = false := by cases hq : ltb (T i) with | false => rfl | true => exact absurd hq b1
      refine E_ifT rfl (by rw [zb_F b1]; rfl) ?_
      refine E_rbyt rfl rfl rfl rfl rfl rfl L0 A1 rfl g6 b0 ?_
      refine E_call rfl (sp_isDigit (d := d + 1)) (chkS rfl (by show 0 ≤ 8; decide)) (fun h3 r3 => ?_)
      rintro ⟨e3, f3⟩
      rw [e3, f3]
      by_cases b2 : dgb (T i) = true
      · refine E_ifF rfl (by rw [zb_T b2]; rfl) ?_
        refine E_al rfl L0 ?_
        refine E_call rfl (sp_readDigits (d := d) A1 hi g7) (chkO (a := 3) hh1 rfl rfl rfl rfl (by show 0 ≤ 8; decide)) (fun h4 r4 => ?_)
        rintro ⟨e4, q2, q3, q4, q5, q6⟩
        rw [e4]
        refine E_goto rfl ?_
        have k := tk_2 (T := T) b0 b1' b2
        refine E_ret rfl ⟨rfl, q2, fr_trans f1 (fr_wk rfl q3), ?_, ?_, ?_, fun _ => ?_⟩
        · rw [fr_gi q3 rfl]; exact g6
        · rw [q5, k.2]
        · rw [q4, k.1]
        · unfold tkv
          rw [k.2]
          exact q6
      · have b2' : dgb (T i) = false := by cases hq : dgb (T i) with | false => rfl | true => exact absurd hq b2
        refine E_ifT rfl (by rw [zb_F b2]; rfl) ?_
        refine E_al rfl L0 ?_
        refine E_rbyt rfl rfl rfl rfl rfl rfl L0 A1 rfl g6 b0 ?_
        refine E_ci 59 rfl (by decide) ?_
        have fin : ∀ k, k ≤ 4 → tkk T L i = k → tke T L i = i + 1 → k ≠ 2 → Ends (pm_at tX2_readToken) (pm_Rt pm_P (d + 2)) (164, lv, [.int (nJ k), .ref 3], h1, 0, 0) (fun h' r => r = none ∧ HH h' ∧ fr_g [(3, 5, 8)] h h' ∧ CT T L i h') := by
          intro k hk k1 k2 k3
          refine E_opf (q := (0, 4)) rfl hh1 rfl rfl ?_
          have hh2 : HH (pt h1 3 5 (nJ k)) := HH_ptn hh1 rfl (by omega) (by omega) (by omega)
          have g72 : gi (pt h1 3 5 (nJ k)) 3 7 = nJ i := by rw [gi_ne (by omega)]; exact g7
          refine E_rinc rfl rfl rfl rfl rfl rfl L0 hh2 g72 ?_
          have hh3 : HH (pt (pt h1 3 5 (nJ k)) 3 7 (nJ (i + 1))) := HH_ptn hh2 rfl (by omega) (by omega) (by omega)
          refine E_ret rfl ⟨rfl, hh3, fr_ptr (l := 5) (u := 8) rfl (by omega) (by omega) (fr_ptr (l := 5) (u := 8) rfl (by omega) (by omega) f1), ?_, ?_, ?_, fun q => absurd q (by omega)⟩
          · rw [gi_ne (by omega), gi_ne (by omega)]; exact g6
          · rw [k2]; exact gi_ptn hh2 rfl (by omega) (by omega) (by omega)
          · rw [k1, gi_ne (by omega)]; exact gi_ptn hh1 rfl (by omega) (by omega) (by omega)
        have e59 : (59 : Int32) = nJ 59 := by decide
        by_cases b3 : T i = 59
        · refine E_icF rfl (decide_eq_false (fun q => q (b3.trans e59))) ?_
          refine E_ci 3 rfl (by decide) ?_
          refine E_goto rfl ?_
          exact fin 3 (by omega) (tk_3 b0 b1' b2' b3).1 (tk_3 b0 b1' b2' b3).2 (by omega)
        · refine E_icT rfl (decide_eq_true (fun q => b3 (q.trans e59.symm))) ?_
          refine E_ci 4 rfl (by decide) ?_
          exact fin 4 (by omega) (tk_4 b0 b1' b2' b3).1 (tk_4 b0 b1' b2' b3).2 (by omega)
  · refine E_icF rfl (decide_eq_false (fun q => b0 ((nJ_lt (by omega) (by omega)).mp q))) ?_
    refine E_al rfl L0 ?_
    refine E_ci 0 rfl (by decide) ?_
    refine E_opf (q := (0, 4)) rfl hh1 rfl rfl ?_
    refine E_goto rfl ?_
    have k := tk_0 (T := T) b0
    have hh2 : HH (pt h1 3 5 (nJ 0)) := HH_ptn hh1 rfl (by omega) (by omega) (by omega)
    refine E_ret rfl ⟨rfl, hh2, fr_ptr (l := 5) (u := 8) rfl (by omega) (by omega) f1, ?_, ?_, ?_, fun q => absurd q (by rw [k.1]; omega)⟩
    · rw [gi_ne (by omega)]; exact g6
    · rw [gi_ne (by omega), k.2]; exact g7
    · rw [k.1]; exact gi_ptn hh1 rfl (by omega) (by omega) (by omega)
theorem rdt_loop (j : Nat) : ∀ {h : pm_H} {i : Nat} (lv : List (Nat × Value)), i + j = L → TA T L h → gi h 3 7 = nJ i → pm_get lv 0 = some (.ref 3) → Ends (pm_at tX2_readToken) (pm_Rt pm_P (d + 2)) (0, lv, [], h, 0, 0) (fun h' r => r = none ∧ HH h' ∧ fr_g [(3, 5, 8)] h h' ∧ CT T L (skp T L i) h') := by
  have e32 : (32 : Int32) = nJ 32 := by decide
  have e10 : (10 : Int32) = nJ 10 := by decide
  induction j with
  | zero =>
    intro h i lv hj A g L0
    have h5 := A.2.2.1
    unfold skp
    rw [up_no (L := L) (i := i) (fun q => absurd q.1 (by omega))]
    refine E_al rfl L0 ?_
    refine E_ogf (q := (0, 500)) rfl A.1 rfl rfl g ?_
    refine E_rlen rfl rfl rfl L0 A ?_
    refine E_icT rfl (decide_eq_true ((nJ_le (by omega) (by omega)).mpr (by omega))) ?_
    exact rdt_tail lv A (by omega) g L0
  | succ j ih =>
    intro h i lv hj A g L0
    have h5 := A.2.2.1
    have go : spb (T i) = true → Ends (pm_at tX2_readToken) (pm_Rt pm_P (d + 2)) (48, lv, [], h, 0, 0) (fun h' r => r = none ∧ HH h' ∧ fr_g [(3, 5, 8)] h h' ∧ CT T L (skp T L i) h') := by
      intro b
      refine E_rinc rfl rfl rfl rfl rfl rfl L0 A.1 g ?_
      refine E_goto rfl ?_
      have hh1 : HH (pt h 3 7 (nJ (i + 1))) := HH_ptn A.1 rfl (by omega) (by omega) (by omega)
      refine Ends_mono ?_ (ih lv (i := i + 1) (by omega) (TA_pt A (by omega) hh1) (gi_ptn A.1 rfl (by omega) (by omega) (by omega)) L0)
      rintro h' r ⟨q1, q2, q3, q4⟩
      refine ⟨q1, q2, fr_trans (fr_ptr (l := 5) (u := 8) rfl (by omega) (by omega) (fr_rf _ _)) q3, ?_⟩
      unfold skp
      rw [up_go (p := fun j => spb (T j)) (by omega) b]
      exact q4
    refine E_al rfl L0 ?_
    refine E_ogf (q := (0, 500)) rfl A.1 rfl rfl g ?_
    refine E_rlen rfl rfl rfl L0 A ?_
    refine E_icF rfl (decide_eq_false (fun q => absurd ((nJ_le (by omega) (by omega)).mp q) (by omega))) ?_
    refine E_rbyt rfl rfl rfl rfl rfl rfl L0 A rfl g (by omega) ?_
    refine E_ci 32 rfl (by decide) ?_
    by_cases b1 : T i = 32
    · refine E_icT rfl (decide_eq_true (b1.trans e32)) ?_
      exact go (by unfold spb; rw [decide_eq_true b1]; rfl)
    refine E_icF rfl (decide_eq_false (fun q => b1 (q.trans e32.symm))) ?_
    refine E_rbyt rfl rfl rfl rfl rfl rfl L0 A rfl g (by omega) ?_
    refine E_ci 10 rfl (by decide) ?_
    by_cases b2 : T i = 10
    · refine E_icF rfl (decide_eq_false (fun q => q (b2.trans e10))) ?_
      exact go (by unfold spb; rw [decide_eq_true b2]; exact Bool.or_true _)
    refine E_icT rfl (decide_eq_true (fun q => b2 (q.trans e10.symm))) ?_
    have e : skp T L i = i := by
      unfold skp
      exact up_no (fun q => by
        have q2 : spb (T i) = true := q.2
        unfold spb at q2
        rw [decide_eq_false b1, decide_eq_false b2] at q2
        cases q2)
    rw [e]
    exact rdt_tail lv A (by omega) g L0
theorem sp_readToken {h : pm_H} {i : Nat} (A : TA T L h) (hi : i ≤ L) (g : gi h 3 7 = nJ i) : Sp (d + 3) 37 h [.ref 3] (fun h' r => r = none ∧ HH h' ∧ fr_g [(3, 5, 8)] h h' ∧ CT T L (skp T L i) h') := by
  refine Sp_of aiX2_readToken rfl rfl rfl ?_
  have L0 : pm_get (lv_args 0 [.ref 3]) 0 = some (.ref 3) := rfl
  generalize lv_args 0 [.ref 3] = lv at L0 ⊢
  exact rdt_loop (d := d) (L - i) lv (i := i) (by omega) A g L0
end CTL
end
