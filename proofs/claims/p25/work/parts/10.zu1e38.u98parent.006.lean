section
set_option maxRecDepth 20000 in
theorem bl_36 {L : Nat} {xs : Nat → Int32} (hL : L ≤ 3072) {h : pm_H} {i : Nat} (hi : i + 6 ≤ L) (lv : List (Nat × Value)) (I : IVQ h) (L0 : pm_get lv 0 = some (.retAddr 0)) (L1 : pm_get lv 1 = some (.ref 0)) (L2 : pm_get lv 2 = some (.ref 77)) (L3 : pm_get lv 3 = some (.int (nJ i))) (K : ∀ h', IVQ h' → Ends (pm_tr (lb_all L xs)) (pm_Rt pm_P 100) (2392, lv, [], h', 599897, 7298671) RQ1) : Ends (pm_tr (lb_all L xs)) (pm_Rt pm_P 100) (1134, lv, [], h, 599897, 7298671) RQ1 := by
  refine E_al rfl L1 ?_
  refine E_alr rfl L0 ?_
  refine E_il rfl L3 ?_
  refine E_ci 1 rfl (by decide) ?_
  refine E_bin rfl (nJ_add _ _) ?_
  refine E_sld rfl (by omega) hL ?_
  refine E_call rfl (tQ_int (by decide +kernel) (by decide +kernel) I.2 (top_int (as := [.ref 0, .int (xs ((i + 1)))]) q496 (by decide +kernel) (by decide +kernel) I.1 ⟨rfl, aI _, trivial⟩)) (chkR (a := 0) I.1.1 rfl rfl rfl rfl (by show 0 ≤ 8; decide)) (fun h1 r1 => ?_)
  rintro ⟨I1, x1, f1⟩
  rw [f1]
  show Ends _ _ (1143, lv, [.int x1], h1, 599897, 7298671) _
  refine E_pop rfl rfl ?_
  refine E_al rfl L2 ?_
  refine E_alr rfl L0 ?_
  refine E_il rfl L3 ?_
  refine E_ci 1 rfl (by decide) ?_
  refine E_bin rfl (nJ_add _ _) ?_
  refine E_sld rfl (by omega) hL ?_
  refine E_call rfl (tQ_int (by decide +kernel) (by decide +kernel) I1.2 (top_TQ (d := 30) rfl I1.1 (tp_upset (d := 0) I1.1.1 (I1.1.2.2.1 0 (by omega))))) (chkR (a := 77) I1.1.1 rfl rfl rfl rfl (by show 0 ≤ 8; decide)) (fun h2 r2 => ?_)
  rintro ⟨I2, x2, f2⟩
  rw [f2]
  show Ends _ _ (1153, lv, [.int x2], h2, 599897, 7298671) _
  refine E_pop rfl rfl ?_
  refine E_goto rfl ?_
  exact K _ I2
set_option maxRecDepth 20000 in
theorem bl_37 {L : Nat} {xs : Nat → Int32} (hL : L ≤ 3072) {h : pm_H} {i : Nat} (hi : i + 6 ≤ L) (lv : List (Nat × Value)) (I : IVQ h) (L0 : pm_get lv 0 = some (.retAddr 0)) (L1 : pm_get lv 1 = some (.ref 0)) (L2 : pm_get lv 2 = some (.ref 77)) (L3 : pm_get lv 3 = some (.int (nJ i))) (K : ∀ h', IVQ h' → Ends (pm_tr (lb_all L xs)) (pm_Rt pm_P 100) (2392, lv, [], h', 599897, 7298671) RQ1) : Ends (pm_tr (lb_all L xs)) (pm_Rt pm_P 100) (1157, lv, [], h, 599897, 7298671) RQ1 := by
  refine E_al rfl L1 ?_
  refine E_alr rfl L0 ?_
  refine E_il rfl L3 ?_
  refine E_ci 1 rfl (by decide) ?_
  refine E_bin rfl (nJ_add _ _) ?_
  refine E_sld rfl (by omega) hL ?_
  refine E_call rfl (tQ_int (by decide +kernel) (by decide +kernel) I.2 (top_int (as := [.ref 0, .int (xs ((i + 1)))]) q499 (by decide +kernel) (by decide +kernel) I.1 ⟨rfl, aI _, trivial⟩)) (chkR (a := 0) I.1.1 rfl rfl rfl rfl (by show 0 ≤ 8; decide)) (fun h1 r1 => ?_)
  rintro ⟨I1, x1, f1⟩
  rw [f1]
  show Ends _ _ (1166, lv, [.int x1], h1, 599897, 7298671) _
  refine E_pop rfl rfl ?_
  refine E_al rfl L2 ?_
  refine E_alr rfl L0 ?_
  refine E_il rfl L3 ?_
  refine E_ci 1 rfl (by decide) ?_
  refine E_bin rfl (nJ_add _ _) ?_
  refine E_sld rfl (by omega) hL ?_
  refine E_call rfl (tQ_int (by decide +kernel) (by decide +kernel) I1.2 (top_int (as := [.ref 77, .int (xs ((i + 1)))]) q504 (by decide +kernel) (by decide +kernel) I1.1 ⟨rfl, aI _, trivial⟩)) (chkR (a := 77) I1.1.1 rfl rfl rfl rfl (by show 0 ≤ 8; decide)) (fun h2 r2 => ?_)
  rintro ⟨I2, x2, f2⟩
  rw [f2]
  show Ends _ _ (1176, lv, [.int x2], h2, 599897, 7298671) _
  refine E_pop rfl rfl ?_
  refine E_goto rfl ?_
  exact K _ I2
set_option maxRecDepth 20000 in
theorem bl_38 {L : Nat} {xs : Nat → Int32} (hL : L ≤ 3072) {h : pm_H} {i : Nat} (hi : i + 6 ≤ L) (lv : List (Nat × Value)) (I : IVQ h) (L0 : pm_get lv 0 = some (.retAddr 0)) (L1 : pm_get lv 1 = some (.ref 0)) (L2 : pm_get lv 2 = some (.ref 77)) (L3 : pm_get lv 3 = some (.int (nJ i))) (K : ∀ h', IVQ h' → Ends (pm_tr (lb_all L xs)) (pm_Rt pm_P 100) (2392, lv, [], h', 599897, 7298671) RQ1) : Ends (pm_tr (lb_all L xs)) (pm_Rt pm_P 100) (1180, lv, [], h, 599897, 7298671) RQ1 := by
  refine E_al rfl L1 ?_
  refine E_alr rfl L0 ?_
  refine E_il rfl L3 ?_
  refine E_ci 1 rfl (by decide) ?_
  refine E_bin rfl (nJ_add _ _) ?_
  refine E_sld rfl (by omega) hL ?_
  refine E_alr rfl L0 ?_
  refine E_il rfl L3 ?_
  refine E_ci 2 rfl (by decide) ?_
  refine E_bin rfl (nJ_add _ _) ?_
  refine E_sld rfl (by omega) hL ?_
  refine E_call rfl (tQ_int (by decide +kernel) (by decide +kernel) I.2 (top_int (as := [.ref 0, .int (xs ((i + 1))), .int (xs ((i + 2)))]) q506 (by decide +kernel) (by decide +kernel) I.1 ⟨rfl, aI _, aI _, trivial⟩)) (chkR (a := 0) I.1.1 rfl rfl rfl rfl (by show 0 ≤ 8; decide)) (fun h1 r1 => ?_)
  rintro ⟨I1, x1, f1⟩
  rw [f1]
  show Ends _ _ (1194, lv, [.int x1], h1, 599897, 7298671) _
  refine E_pop rfl rfl ?_
  refine E_al rfl L2 ?_
  refine E_alr rfl L0 ?_
  refine E_il rfl L3 ?_
  refine E_ci 1 rfl (by decide) ?_
  refine E_bin rfl (nJ_add _ _) ?_
  refine E_sld rfl (by omega) hL ?_
  refine E_alr rfl L0 ?_
  refine E_il rfl L3 ?_
  refine E_ci 2 rfl (by decide) ?_
  refine E_bin rfl (nJ_add _ _) ?_
  refine E_sld rfl (by omega) hL ?_
  refine E_call rfl (tQ_int (by decide +kernel) (by decide +kernel) I1.2 (top_int (as := [.ref 77, .int (xs ((i + 1))), .int (xs ((i + 2)))]) q509 (by decide +kernel) (by decide +kernel) I1.1 ⟨rfl, aI _, aI _, trivial⟩)) (chkR (a := 77) I1.1.1 rfl rfl rfl rfl (by show 0 ≤ 8; decide)) (fun h2 r2 => ?_)
  rintro ⟨I2, x2, f2⟩
  rw [f2]
  show Ends _ _ (1209, lv, [.int x2], h2, 599897, 7298671) _
  refine E_pop rfl rfl ?_
  refine E_goto rfl ?_
  exact K _ I2
set_option maxRecDepth 20000 in
theorem bl_39 {L : Nat} {xs : Nat → Int32} (hL : L ≤ 3072) {h : pm_H} {i : Nat} (hi : i + 6 ≤ L) (lv : List (Nat × Value)) (I : IVQ h) (L0 : pm_get lv 0 = some (.retAddr 0)) (L1 : pm_get lv 1 = some (.ref 0)) (L2 : pm_get lv 2 = some (.ref 77)) (L3 : pm_get lv 3 = some (.int (nJ i))) (K : ∀ h', IVQ h' → Ends (pm_tr (lb_all L xs)) (pm_Rt pm_P 100) (2392, lv, [], h', 599897, 7298671) RQ1) : Ends (pm_tr (lb_all L xs)) (pm_Rt pm_P 100) (1213, lv, [], h, 599897, 7298671) RQ1 := by
  refine E_al rfl L1 ?_
  refine E_alr rfl L0 ?_
  refine E_il rfl L3 ?_
  refine E_ci 1 rfl (by decide) ?_
  refine E_bin rfl (nJ_add _ _) ?_
  refine E_sld rfl (by omega) hL ?_
  refine E_alr rfl L0 ?_
  refine E_il rfl L3 ?_
  refine E_ci 2 rfl (by decide) ?_
  refine E_bin rfl (nJ_add _ _) ?_
  refine E_sld rfl (by omega) hL ?_
  refine E_call rfl (tQ_int (by decide +kernel) (by decide +kernel) I.2 (top_int (as := [.ref 0, .int (xs ((i + 1))), .int (xs ((i + 2)))]) q510 (by decide +kernel) (by decide +kernel) I.1 ⟨rfl, aI _, aI _, trivial⟩)) (chkR (a := 0) I.1.1 rfl rfl rfl rfl (by show 0 ≤ 8; decide)) (fun h1 r1 => ?_)
  rintro ⟨I1, x1, f1⟩
  rw [f1]
  show Ends _ _ (1227, lv, [.int x1], h1, 599897, 7298671) _
  refine E_pop rfl rfl ?_
  refine E_al rfl L2 ?_
  refine E_alr rfl L0 ?_
  refine E_il rfl L3 ?_
  refine E_ci 1 rfl (by decide) ?_
  refine E_bin rfl (nJ_add _ _) ?_
  refine E_sld rfl (by omega) hL ?_
  refine E_alr rfl L0 ?_
  refine E_il rfl L3 ?_
  refine E_ci 2 rfl (by decide) ?_
  refine E_bin rfl (nJ_add _ _) ?_
  refine E_sld rfl (by omega) hL ?_
  refine E_call rfl (tQ_int (by decide +kernel) (by decide +kernel) I1.2 (top_TQ (d := 30) rfl I1.1 (tp_trees (d := 0) I1.1.1 (I1.1.2.2.1 0 (by omega))))) (chkR (a := 77) I1.1.1 rfl rfl rfl rfl (by show 0 ≤ 8; decide)) (fun h2 r2 => ?_)
  rintro ⟨I2, x2, f2⟩
  rw [f2]
  show Ends _ _ (1242, lv, [.int x2], h2, 599897, 7298671) _
  refine E_pop rfl rfl ?_
  refine E_goto rfl ?_
  exact K _ I2
set_option maxRecDepth 20000 in
theorem bl_40 {L : Nat} {xs : Nat → Int32} (hL : L ≤ 3072) {h : pm_H} {i : Nat} (hi : i + 6 ≤ L) (lv : List (Nat × Value)) (I : IVQ h) (L0 : pm_get lv 0 = some (.retAddr 0)) (L1 : pm_get lv 1 = some (.ref 0)) (L2 : pm_get lv 2 = some (.ref 77)) (L3 : pm_get lv 3 = some (.int (nJ i))) (K : ∀ h', IVQ h' → Ends (pm_tr (lb_all L xs)) (pm_Rt pm_P 100) (2392, lv, [], h', 599897, 7298671) RQ1) : Ends (pm_tr (lb_all L xs)) (pm_Rt pm_P 100) (1246, lv, [], h, 599897, 7298671) RQ1 := by
  refine E_al rfl L1 ?_
  refine E_alr rfl L0 ?_
  refine E_il rfl L3 ?_
  refine E_ci 1 rfl (by decide) ?_
  refine E_bin rfl (nJ_add _ _) ?_
  refine E_sld rfl (by omega) hL ?_
  refine E_alr rfl L0 ?_
  refine E_il rfl L3 ?_
  refine E_ci 2 rfl (by decide) ?_
  refine E_bin rfl (nJ_add _ _) ?_
  refine E_sld rfl (by omega) hL ?_
  refine E_call rfl (tQ_int (by decide +kernel) (by decide +kernel) I.2 (top_int (as := [.ref 0, .int (xs ((i + 1))), .int (xs ((i + 2)))]) q512 (by decide +kernel) (by decide +kernel) I.1 ⟨rfl, aI _, aI _, trivial⟩)) (chkR (a := 0) I.1.1 rfl rfl rfl rfl (by show 0 ≤ 8; decide)) (fun h1 r1 => ?_)
  rintro ⟨I1, x1, f1⟩
  rw [f1]
  show Ends _ _ (1260, lv, [.int x1], h1, 599897, 7298671) _
  refine E_pop rfl rfl ?_
  refine E_al rfl L2 ?_
  refine E_alr rfl L0 ?_
  refine E_il rfl L3 ?_
  refine E_ci 1 rfl (by decide) ?_
  refine E_bin rfl (nJ_add _ _) ?_
  refine E_sld rfl (by omega) hL ?_
  refine E_alr rfl L0 ?_
  refine E_il rfl L3 ?_
  refine E_ci 2 rfl (by decide) ?_
  refine E_bin rfl (nJ_add _ _) ?_
  refine E_sld rfl (by omega) hL ?_
  refine E_call rfl (tQ_int (by decide +kernel) (by decide +kernel) I1.2 (top_int (as := [.ref 77, .int (xs ((i + 1))), .int (xs ((i + 2)))]) q515 (by decide +kernel) (by decide +kernel) I1.1 ⟨rfl, aI _, aI _, trivial⟩)) (chkR (a := 77) I1.1.1 rfl rfl rfl rfl (by show 0 ≤ 8; decide)) (fun h2 r2 => ?_)
  rintro ⟨I2, x2, f2⟩
  rw [f2]
  show Ends _ _ (1275, lv, [.int x2], h2, 599897, 7298671) _
  refine E_pop rfl rfl ?_
  refine E_goto rfl ?_
  exact K _ I2
set_option maxRecDepth 20000 in
theorem bl_41 {L : Nat} {xs : Nat → Int32} (hL : L ≤ 3072) {h : pm_H} {i : Nat} (hi : i + 6 ≤ L) (lv : List (Nat × Value)) (I : IVQ h) (L0 : pm_get lv 0 = some (.retAddr 0)) (L1 : pm_get lv 1 = some (.ref 0)) (L2 : pm_get lv 2 = some (.ref 77)) (L3 : pm_get lv 3 = some (.int (nJ i))) (K : ∀ h', IVQ h' → Ends (pm_tr (lb_all L xs)) (pm_Rt pm_P 100) (2392, lv, [], h', 599897, 7298671) RQ1) : Ends (pm_tr (lb_all L xs)) (pm_Rt pm_P 100) (1279, lv, [], h, 599897, 7298671) RQ1 := by
  refine E_al rfl L1 ?_
  refine E_alr rfl L0 ?_
  refine E_il rfl L3 ?_
  refine E_ci 1 rfl (by decide) ?_
  refine E_bin rfl (nJ_add _ _) ?_
  refine E_sld rfl (by omega) hL ?_
  refine E_call rfl (tQ_int (by decide +kernel) (by decide +kernel) I.2 (top_int (as := [.ref 0, .int (xs ((i + 1)))]) q520 (by decide +kernel) (by decide +kernel) I.1 ⟨rfl, aI _, trivial⟩)) (chkR (a := 0) I.1.1 rfl rfl rfl rfl (by show 0 ≤ 8; decide)) (fun h1 r1 => ?_)
  rintro ⟨I1, x1, f1⟩
  rw [f1]
  show Ends _ _ (1288, lv, [.int x1], h1, 599897, 7298671) _
  refine E_pop rfl rfl ?_
  refine E_al rfl L2 ?_
  refine E_alr rfl L0 ?_
  refine E_il rfl L3 ?_
  refine E_ci 1 rfl (by decide) ?_
  refine E_bin rfl (nJ_add _ _) ?_
  refine E_sld rfl (by omega) hL ?_
  refine E_call rfl (tQ_int (by decide +kernel) (by decide +kernel) I1.2 (top_int (as := [.ref 77, .int (xs ((i + 1)))]) q528 (by decide +kernel) (by decide +kernel) I1.1 ⟨rfl, aI _, trivial⟩)) (chkR (a := 77) I1.1.1 rfl rfl rfl rfl (by show 0 ≤ 8; decide)) (fun h2 r2 => ?_)
  rintro ⟨I2, x2, f2⟩
  rw [f2]
  show Ends _ _ (1298, lv, [.int x2], h2, 599897, 7298671) _
  refine E_pop rfl rfl ?_
  refine E_goto rfl ?_
  exact K _ I2
end
