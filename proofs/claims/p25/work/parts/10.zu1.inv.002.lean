section
theorem four_r {h : pm_H} {d s : Nat} {v x : Int32} {Q : pm_H → Option Value → Prop} (lv : List (Nat × Value)) (hh : HH h) (hn : gn h 77 6 < 500) (hs : s < 32) (hx : nJ s + (-8) = x) (L0 : pm_get lv 0 = some (.ref 77)) (L1 : pm_get lv 1 = some (.int v)) (L2 : pm_get lv 2 = some (.int (nJ s))) (K : ∀ lv : List (Nat × Value), pm_get lv 0 = some (.ref 77) → pm_get lv 1 = some (.int v) → pm_get lv 2 = some (.int x) → Ends (pm_at tX9_four) (pm_Rt pm_P d) (3, lv, [], rdb 82 77 6 h (byv v s), 0, 0) Q) : Ends (pm_at tX9_four) (pm_Rt pm_P d) (3, lv, [], h, 0, 0) Q := by
  refine E_il rfl L2 ?_
  refine E_ifF rfl (decide_eq_false (nJ_lt0 (by omega))) ?_
  refine E_al rfl L0 ?_
  refine E_gr rfl hh (q := 82) rfl ?_
  refine E_al rfl L0 ?_
  refine E_gf rfl hh rfl (show gi h 77 6 = nJ ((gn h 77 6)) from (gi_gn hh rfl (by decide))) ?_
  refine E_il rfl L1 ?_
  refine E_il rfl L2 ?_
  refine E_bin rfl rfl ?_
  refine E_un rfl ?_
  refine E_bas rfl hh rfl (by omega) (by decide) ?_
  obtain ⟨p1, p2, p3, p4, -, -, -⟩ := rdb_ok (b := byv v s) isT9 hh hn (nar_b _)
  show Ends _ _ (20, lv, [], (pt h 82 (gn h 77 6) (byv v s)), 0, 0) _
  refine E_al rfl L0 ?_
  refine E_dup rfl rfl ?_
  refine E_gf rfl p1 rfl (show gi (pt h 82 (gn h 77 6) (byv v s)) 77 6 = nJ ((gn h 77 6)) from (by rw [gi_ne (by omega)]; exact gi_gn hh rfl (by decide))) ?_
  refine E_ci 1 rfl (by decide) ?_
  refine E_bin rfl (nJ_add _ _) ?_
  refine E_pf rfl p1 rfl ?_
  have hh1 : HH (pt (pt h 82 (gn h 77 6) (byv v s)) 77 6 (nJ (((gn h 77 6) + 1)))) := HH_ptn p1 rfl (by omega) (by omega) (by omega)
  refine E_inc rfl L2 hx (fun lv2 L2_2 kp2 => ?_)
  have L2_0 := kp2 0 _ (by decide) rfl L0
  have L2_1 := kp2 1 _ (by decide) rfl L1
  refine E_goto rfl ?_
  exact K lv2 L2_0 L2_1 L2_2
theorem sp_four {h : pm_H} {d : Nat} {v : Int32} (hh : HH h) (hn : gn h 77 6 + 4 ≤ 500) : Sp (d + 1) 252 h [.ref 77, .int v] (fun h' r => r = none ∧ h' = rd4 82 77 6 h v) := by
  refine Sp_of aiX9_four rfl rfl rfl ?_
  refine E_ci 24 rfl (by decide) ?_
  refine E_is rfl (fun lv1 L1_2 kp1 => ?_)
  have L1_0 := kp1 0 _ (by decide) rfl (show pm_get (lv_args 0 [.ref 77, .int v]) 0 = _ from rfl)
  have L1_1 := kp1 1 _ (by decide) rfl (show pm_get (lv_args 0 [.ref 77, .int v]) 1 = _ from rfl)
  have T := isT9
  obtain ⟨-, -, p1, p2, -, -, -⟩ := rdb_ok (b := byv v 24) T hh (by omega) (nar_b _)
  obtain ⟨-, -, q1, q2, -, -, -⟩ := rdb_ok (b := byv v 16) T p1 (by omega) (nar_b _)
  obtain ⟨-, -, r1, r2, -, -, -⟩ := rdb_ok (b := byv v 8) T q1 (by omega) (nar_b _)
  refine four_r (x := nJ 16) _ hh (by omega) (by omega) (by decide) L1_0 L1_1 L1_2 (fun lv A0 A1 A2 => ?_)
  refine four_r (x := nJ 8) _ p1 (by omega) (by omega) (by decide) A0 A1 A2 (fun lv A0 A1 A2 => ?_)
  refine four_r (x := nJ 0) _ q1 (by omega) (by omega) (by decide) A0 A1 A2 (fun lv A0 A1 A2 => ?_)
  refine four_r (x := -8) _ r1 (by omega) (by omega) (by decide) A0 A1 A2 (fun lv A0 A1 A2 => ?_)
  refine E_il rfl A2 ?_
  refine E_ifT rfl (by decide) ?_
  exact E_ret rfl ⟨rfl, rfl⟩
theorem sp_feed8 {h : pm_H} {dd : Nat} {a b c d e : Int32} (hh : HH h) : Sp (dd + 2) 106 h [.ref 0, .int a, .int b, .int c, .int d, .int e] (fun h' r => (gn h 1 1 + 20 ≤ 500 ∧ h' = rd20 2 1 1 h a b c d e ∧ r = some (.int (nJ (gn h 1 1 + 20)))) ∨ (¬ gn h 1 1 + 20 ≤ 500 ∧ h' = h ∧ r = some (.int (-1)))) := by
  have hn5 : gn h 1 1 ≤ 500 := gn_hi hh rfl (by decide)
  refine Sp_of aiX8_feed rfl rfl rfl ?_
  refine E_al rfl (show pm_get (lv_args 0 [.ref 0, .int a, .int b, .int c, .int d, .int e]) 0 = _ from rfl) ?_
  refine E_ogr rfl hh rfl (q := 1) rfl ?_
  refine E_ogf rfl hh rfl rfl (show gi h 1 1 = nJ ((gn h 1 1)) from (gi_gn hh rfl (by decide))) ?_
  refine E_ci 480 rfl (by decide) ?_
  by_cases hb1 : (gn h 1 1) ≤ 480
  · refine E_icT rfl (decide_eq_true ((nJ_le (by omega) (by omega)).mpr hb1)) ?_
    refine E_al rfl (show pm_get (lv_args 0 [.ref 0, .int a, .int b, .int c, .int d, .int e]) 0 = _ from rfl) ?_
    refine E_ogr rfl hh rfl (q := 1) rfl ?_
    refine E_il rfl (show pm_get (lv_args 0 [.ref 0, .int a, .int b, .int c, .int d, .int e]) 1 = _ from rfl) ?_
    refine E_call rfl (Sp_le (by omega) (sp_add (d := 0) hh (by omega))) (chkO (a := 1) hh rfl rfl rfl rfl (by show 0 ≤ 8; decide)) (fun h2 r2 => ?_)
    rintro ⟨e2, f2⟩
    rw [e2, f2]
    obtain ⟨y2, n2, -, -, -⟩ := rd4_ok (v := a) isT8 hh (by omega)
    show Ends _ _ (23, (lv_args 0 [.ref 0, .int a, .int b, .int c, .int d, .int e]), [], (rd4 2 1 1 h a), 0, 0) _
    refine E_al rfl (show pm_get (lv_args 0 [.ref 0, .int a, .int b, .int c, .int d, .int e]) 0 = _ from rfl) ?_
    refine E_ogr rfl y2 rfl (q := 1) rfl ?_
    refine E_il rfl (show pm_get (lv_args 0 [.ref 0, .int a, .int b, .int c, .int d, .int e]) 2 = _ from rfl) ?_
    refine E_call rfl (Sp_le (by omega) (sp_add (d := 0) y2 (by omega))) (chkO (a := 1) y2 rfl rfl rfl rfl (by show 0 ≤ 8; decide)) (fun h3 r3 => ?_)
    rintro ⟨e3, f3⟩
    rw [e3, f3]
    obtain ⟨y3, n3, -, -, -⟩ := rd4_ok (v := b) isT8 y2 (by omega)
    show Ends _ _ (31, (lv_args 0 [.ref 0, .int a, .int b, .int c, .int d, .int e]), [], (rd4 2 1 1 (rd4 2 1 1 h a) b), 0, 0) _
    refine E_al rfl (show pm_get (lv_args 0 [.ref 0, .int a, .int b, .int c, .int d, .int e]) 0 = _ from rfl) ?_
    refine E_ogr rfl y3 rfl (q := 1) rfl ?_
    refine E_il rfl (show pm_get (lv_args 0 [.ref 0, .int a, .int b, .int c, .int d, .int e]) 3 = _ from rfl) ?_
    refine E_call rfl (Sp_le (by omega) (sp_add (d := 0) y3 (by omega))) (chkO (a := 1) y3 rfl rfl rfl rfl (by show 0 ≤ 8; decide)) (fun h4 r4 => ?_)
    rintro ⟨e4, f4⟩
    rw [e4, f4]
    obtain ⟨y4, n4, -, -, -⟩ := rd4_ok (v := c) isT8 y3 (by omega)
    show Ends _ _ (39, (lv_args 0 [.ref 0, .int a, .int b, .int c, .int d, .int e]), [], (rd4 2 1 1 (rd4 2 1 1 (rd4 2 1 1 h a) b) c), 0, 0) _
    refine E_al rfl (show pm_get (lv_args 0 [.ref 0, .int a, .int b, .int c, .int d, .int e]) 0 = _ from rfl) ?_
    refine E_ogr rfl y4 rfl (q := 1) rfl ?_
    refine E_il rfl (show pm_get (lv_args 0 [.ref 0, .int a, .int b, .int c, .int d, .int e]) 4 = _ from rfl) ?_
    refine E_call rfl (Sp_le (by omega) (sp_add (d := 0) y4 (by omega))) (chkO (a := 1) y4 rfl rfl rfl rfl (by show 0 ≤ 8; decide)) (fun h5 r5 => ?_)
    rintro ⟨e5, f5⟩
    rw [e5, f5]
    obtain ⟨y5, n5, -, -, -⟩ := rd4_ok (v := d) isT8 y4 (by omega)
    show Ends _ _ (48, (lv_args 0 [.ref 0, .int a, .int b, .int c, .int d, .int e]), [], (rd4 2 1 1 (rd4 2 1 1 (rd4 2 1 1 (rd4 2 1 1 h a) b) c) d), 0, 0) _
    refine E_al rfl (show pm_get (lv_args 0 [.ref 0, .int a, .int b, .int c, .int d, .int e]) 0 = _ from rfl) ?_
    refine E_ogr rfl y5 rfl (q := 1) rfl ?_
    refine E_il rfl (show pm_get (lv_args 0 [.ref 0, .int a, .int b, .int c, .int d, .int e]) 5 = _ from rfl) ?_
    refine E_call rfl (Sp_le (by omega) (sp_add (d := 0) y5 (by omega))) (chkO (a := 1) y5 rfl rfl rfl rfl (by show 0 ≤ 8; decide)) (fun h6 r6 => ?_)
    rintro ⟨e6, f6⟩
    rw [e6, f6]
    obtain ⟨y6, n6, -, -, -⟩ := rd4_ok (v := e) isT8 y5 (by omega)
    show Ends _ _ (57, (lv_args 0 [.ref 0, .int a, .int b, .int c, .int d, .int e]), [], (rd4 2 1 1 (rd4 2 1 1 (rd4 2 1 1 (rd4 2 1 1 (rd4 2 1 1 h a) b) c) d) e), 0, 0) _
    refine E_al rfl (show pm_get (lv_args 0 [.ref 0, .int a, .int b, .int c, .int d, .int e]) 0 = _ from rfl) ?_
    refine E_ogr rfl y6 rfl (q := 1) rfl ?_
    refine E_ogf rfl y6 rfl rfl (show gi (rd4 2 1 1 (rd4 2 1 1 (rd4 2 1 1 (rd4 2 1 1 (rd4 2 1 1 h a) b) c) d) e) 1 1 = nJ ((gn h 1 1 + 20)) from (by rw [gi_gn y6 rfl (by decide)]; exact congrArg nJ (by omega))) ?_
    exact E_rti rfl (.inl ⟨by omega, rfl, rfl⟩)
  · refine E_icF rfl (decide_eq_false (fun q => hb1 ((nJ_le (by omega) (by omega)).mp q))) ?_
    refine E_c rfl ?_
    exact E_rti rfl (.inr ⟨by omega, rfl, rfl⟩)
theorem sp_feed9 {h : pm_H} {dd : Nat} {a b c d e : Int32} (hh : HH h) : Sp (dd + 2) 247 h [.ref 77, .int a, .int b, .int c, .int d, .int e] (fun h' r => (gn h 77 6 + 20 ≤ 500 ∧ h' = rd20 82 77 6 (pt h 77 0 (nJ 0)) a b c d e ∧ r = some (.int (nJ (gn h 77 6 + 20)))) ∨ (¬ gn h 77 6 + 20 ≤ 500 ∧ h' = (pt h 77 0 (nJ 0)) ∧ r = some (.int (-1)))) := by
  have hn5 : gn h 77 6 ≤ 500 := gn_hi hh rfl (by decide)
  refine Sp_of aiX9_feed rfl rfl rfl ?_
  refine E_al rfl (show pm_get (lv_args 0 [.ref 77, .int a, .int b, .int c, .int d, .int e]) 0 = _ from rfl) ?_
  refine E_ci 0 rfl (by decide) ?_
  refine E_pf rfl hh rfl ?_
  have hh1 : HH (pt h 77 0 (nJ 0)) := HH_ptn hh rfl (by omega) (by omega) (by omega)
  have n0 : gn (pt h 77 0 (nJ 0)) 77 6 = gn h 77 6 := gn_ne (by omega)
  refine E_al rfl (show pm_get (lv_args 0 [.ref 77, .int a, .int b, .int c, .int d, .int e]) 0 = _ from rfl) ?_
  refine E_gf rfl hh1 rfl (show gi (pt h 77 0 (nJ 0)) 77 6 = nJ ((gn h 77 6)) from (by rw [gi_ne (by omega)]; exact gi_gn hh rfl (by decide))) ?_
  refine E_ci 20 rfl (by decide) ?_
  refine E_bin rfl (nJ_add _ _) ?_
  refine E_ci 500 rfl (by decide) ?_
  by_cases hb2 : ((gn h 77 6) + 20) ≤ 500
  · refine E_icT rfl (decide_eq_true ((nJ_le (by omega) (by omega)).mpr hb2)) ?_
    refine E_al rfl (show pm_get (lv_args 0 [.ref 77, .int a, .int b, .int c, .int d, .int e]) 0 = _ from rfl) ?_
    refine E_il rfl (show pm_get (lv_args 0 [.ref 77, .int a, .int b, .int c, .int d, .int e]) 1 = _ from rfl) ?_
    refine E_call rfl (Sp_le (by omega) (sp_four (d := 0) hh1 (by omega))) (chk77 hh1 rfl rfl (by show 0 ≤ 8; decide)) (fun h3 r3 => ?_)
    rintro ⟨e3, f3⟩
    rw [e3, f3]
    obtain ⟨y3, n3, -, -, -⟩ := rd4_ok (v := a) isT9 hh1 (by omega)
    show Ends _ _ (25, (lv_args 0 [.ref 77, .int a, .int b, .int c, .int d, .int e]), [], (rd4 82 77 6 (pt h 77 0 (nJ 0)) a), 0, 0) _
    refine E_al rfl (show pm_get (lv_args 0 [.ref 77, .int a, .int b, .int c, .int d, .int e]) 0 = _ from rfl) ?_
    refine E_il rfl (show pm_get (lv_args 0 [.ref 77, .int a, .int b, .int c, .int d, .int e]) 2 = _ from rfl) ?_
    refine E_call rfl (Sp_le (by omega) (sp_four (d := 0) y3 (by omega))) (chk77 y3 rfl rfl (by show 0 ≤ 8; decide)) (fun h4 r4 => ?_)
    rintro ⟨e4, f4⟩
    rw [e4, f4]
    obtain ⟨y4, n4, -, -, -⟩ := rd4_ok (v := b) isT9 y3 (by omega)
    show Ends _ _ (30, (lv_args 0 [.ref 77, .int a, .int b, .int c, .int d, .int e]), [], (rd4 82 77 6 (rd4 82 77 6 (pt h 77 0 (nJ 0)) a) b), 0, 0) _
    refine E_al rfl (show pm_get (lv_args 0 [.ref 77, .int a, .int b, .int c, .int d, .int e]) 0 = _ from rfl) ?_
    refine E_il rfl (show pm_get (lv_args 0 [.ref 77, .int a, .int b, .int c, .int d, .int e]) 3 = _ from rfl) ?_
    refine E_call rfl (Sp_le (by omega) (sp_four (d := 0) y4 (by omega))) (chk77 y4 rfl rfl (by show 0 ≤ 8; decide)) (fun h5 r5 => ?_)
    rintro ⟨e5, f5⟩
    rw [e5, f5]
    obtain ⟨y5, n5, -, -, -⟩ := rd4_ok (v := c) isT9 y4 (by omega)
    show Ends _ _ (35, (lv_args 0 [.ref 77, .int a, .int b, .int c, .int d, .int e]), [], (rd4 82 77 6 (rd4 82 77 6 (rd4 82 77 6 (pt h 77 0 (nJ 0)) a) b) c), 0, 0) _
    refine E_al rfl (show pm_get (lv_args 0 [.ref 77, .int a, .int b, .int c, .int d, .int e]) 0 = _ from rfl) ?_
    refine E_il rfl (show pm_get (lv_args 0 [.ref 77, .int a, .int b, .int c, .int d, .int e]) 4 = _ from rfl) ?_
    refine E_call rfl (Sp_le (by omega) (sp_four (d := 0) y5 (by omega))) (chk77 y5 rfl rfl (by show 0 ≤ 8; decide)) (fun h6 r6 => ?_)
    rintro ⟨e6, f6⟩
    rw [e6, f6]
    obtain ⟨y6, n6, -, -, -⟩ := rd4_ok (v := d) isT9 y5 (by omega)
    show Ends _ _ (41, (lv_args 0 [.ref 77, .int a, .int b, .int c, .int d, .int e]), [], (rd4 82 77 6 (rd4 82 77 6 (rd4 82 77 6 (rd4 82 77 6 (pt h 77 0 (nJ 0)) a) b) c) d), 0, 0) _
    refine E_al rfl (show pm_get (lv_args 0 [.ref 77, .int a, .int b, .int c, .int d, .int e]) 0 = _ from rfl) ?_
    refine E_il rfl (show pm_get (lv_args 0 [.ref 77, .int a, .int b, .int c, .int d, .int e]) 5 = _ from rfl) ?_
    refine E_call rfl (Sp_le (by omega) (sp_four (d := 0) y6 (by omega))) (chk77 y6 rfl rfl (by show 0 ≤ 8; decide)) (fun h7 r7 => ?_)
    rintro ⟨e7, f7⟩
    rw [e7, f7]
    obtain ⟨y7, n7, -, -, -⟩ := rd4_ok (v := e) isT9 y6 (by omega)
    show Ends _ _ (47, (lv_args 0 [.ref 77, .int a, .int b, .int c, .int d, .int e]), [], (rd4 82 77 6 (rd4 82 77 6 (rd4 82 77 6 (rd4 82 77 6 (rd4 82 77 6 (pt h 77 0 (nJ 0)) a) b) c) d) e), 0, 0) _
    refine E_al rfl (show pm_get (lv_args 0 [.ref 77, .int a, .int b, .int c, .int d, .int e]) 0 = _ from rfl) ?_
    refine E_gf rfl y7 rfl (show gi (rd4 82 77 6 (rd4 82 77 6 (rd4 82 77 6 (rd4 82 77 6 (rd4 82 77 6 (pt h 77 0 (nJ 0)) a) b) c) d) e) 77 6 = nJ ((gn h 77 6 + 20)) from (by rw [gi_gn y7 rfl (by decide)]; exact congrArg nJ (by omega))) ?_
    exact E_rti rfl (.inl ⟨by omega, rfl, rfl⟩)
  · refine E_icF rfl (decide_eq_false (fun q => hb2 ((nJ_le (by omega) (by omega)).mp q))) ?_
    refine E_c rfl ?_
    exact E_rti rfl (.inr ⟨by omega, rfl, rfl⟩)
end
