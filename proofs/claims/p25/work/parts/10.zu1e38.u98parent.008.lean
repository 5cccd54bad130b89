section
set_option maxRecDepth 20000 in
theorem bl_48 {L : Nat} {xs : Nat → Int32} (hL : L ≤ 3072) {h : pm_H} {i : Nat} (hi : i + 6 ≤ L) (lv : List (Nat × Value)) (I : IVQ h) (L0 : pm_get lv 0 = some (.retAddr 0)) (L1 : pm_get lv 1 = some (.ref 0)) (L2 : pm_get lv 2 = some (.ref 77)) (L3 : pm_get lv 3 = some (.int (nJ i))) (K : ∀ h', IVQ h' → Ends (pm_tr (lb_all L xs)) (pm_Rt pm_P 100) (2392, lv, [], h', 599897, 7298671) RQ1) : Ends (pm_tr (lb_all L xs)) (pm_Rt pm_P 100) (1440, lv, [], h, 599897, 7298671) RQ1 := by
  refine E_al rfl L1 ?_
  refine E_call rfl (tQ_int (by decide +kernel) (by decide +kernel) I.2 (top_int (as := [.ref 0]) q576 (by decide +kernel) (by decide +kernel) I.1 ⟨rfl, trivial⟩)) (chkR (a := 0) I.1.1 rfl rfl rfl rfl (by show 0 ≤ 8; decide)) (fun h1 r1 => ?_)
  rintro ⟨I1, x1, f1⟩
  rw [f1]
  show Ends _ _ (1444, lv, [.int x1], h1, 599897, 7298671) _
  refine E_pop rfl rfl ?_
  refine E_al rfl L2 ?_
  refine E_call rfl (tQ_int (by decide +kernel) (by decide +kernel) I1.2 (top_int (as := [.ref 77]) q577 (by decide +kernel) (by decide +kernel) I1.1 ⟨rfl, trivial⟩)) (chkR (a := 77) I1.1.1 rfl rfl rfl rfl (by show 0 ≤ 8; decide)) (fun h2 r2 => ?_)
  rintro ⟨I2, x2, f2⟩
  rw [f2]
  show Ends _ _ (1449, lv, [.int x2], h2, 599897, 7298671) _
  refine E_pop rfl rfl ?_
  refine E_goto rfl ?_
  exact K _ I2
set_option maxRecDepth 20000 in
theorem bl_49 {L : Nat} {xs : Nat → Int32} (hL : L ≤ 3072) {h : pm_H} {i : Nat} (hi : i + 6 ≤ L) (lv : List (Nat × Value)) (I : IVQ h) (L0 : pm_get lv 0 = some (.retAddr 0)) (L1 : pm_get lv 1 = some (.ref 0)) (L2 : pm_get lv 2 = some (.ref 77)) (L3 : pm_get lv 3 = some (.int (nJ i))) (K : ∀ h', IVQ h' → Ends (pm_tr (lb_all L xs)) (pm_Rt pm_P 100) (2392, lv, [], h', 599897, 7298671) RQ1) : Ends (pm_tr (lb_all L xs)) (pm_Rt pm_P 100) (1453, lv, [], h, 599897, 7298671) RQ1 := by
  refine E_al rfl L1 ?_
  refine E_alr rfl L0 ?_
  refine E_il rfl L3 ?_
  refine E_ci 1 rfl (by decide) ?_
  refine E_bin rfl (nJ_add _ _) ?_
  refine E_sld rfl (by omega) hL ?_
  refine E_call rfl (tQ_int (by decide +kernel) (by decide +kernel) I.2 (top_int (as := [.ref 0, .int (xs ((i + 1)))]) q580 (by decide +kernel) (by decide +kernel) I.1 ⟨rfl, aI _, trivial⟩)) (chkR (a := 0) I.1.1 rfl rfl rfl rfl (by show 0 ≤ 8; decide)) (fun h1 r1 => ?_)
  rintro ⟨I1, x1, f1⟩
  rw [f1]
  show Ends _ _ (1462, lv, [.int x1], h1, 599897, 7298671) _
  refine E_pop rfl rfl ?_
  refine E_al rfl L2 ?_
  refine E_alr rfl L0 ?_
  refine E_il rfl L3 ?_
  refine E_ci 1 rfl (by decide) ?_
  refine E_bin rfl (nJ_add _ _) ?_
  refine E_sld rfl (by omega) hL ?_
  refine E_call rfl (tQ_int (by decide +kernel) (by decide +kernel) I1.2 (top_int (as := [.ref 77, .int (xs ((i + 1)))]) q585 (by decide +kernel) (by decide +kernel) I1.1 ⟨rfl, aI _, trivial⟩)) (chkR (a := 77) I1.1.1 rfl rfl rfl rfl (by show 0 ≤ 8; decide)) (fun h2 r2 => ?_)
  rintro ⟨I2, x2, f2⟩
  rw [f2]
  show Ends _ _ (1472, lv, [.int x2], h2, 599897, 7298671) _
  refine E_pop rfl rfl ?_
  refine E_goto rfl ?_
  exact K _ I2
set_option maxRecDepth 20000 in
theorem bl_50 {L : Nat} {xs : Nat → Int32} (hL : L ≤ 3072) {h : pm_H} {i : Nat} (hi : i + 6 ≤ L) (lv : List (Nat × Value)) (I : IVQ h) (L0 : pm_get lv 0 = some (.retAddr 0)) (L1 : pm_get lv 1 = some (.ref 0)) (L2 : pm_get lv 2 = some (.ref 77)) (L3 : pm_get lv 3 = some (.int (nJ i))) (K : ∀ h', IVQ h' → Ends (pm_tr (lb_all L xs)) (pm_Rt pm_P 100) (2392, lv, [], h', 599897, 7298671) RQ1) : Ends (pm_tr (lb_all L xs)) (pm_Rt pm_P 100) (1476, lv, [], h, 599897, 7298671) RQ1 := by
  refine E_al rfl L1 ?_
  refine E_alr rfl L0 ?_
  refine E_il rfl L3 ?_
  refine E_ci 1 rfl (by decide) ?_
  refine E_bin rfl (nJ_add _ _) ?_
  refine E_sld rfl (by omega) hL ?_
  refine E_alr rfl L0 ?_
  refine E_il rfl L3 ?_
  refine E_ci 2 rfl (by decide) ?_
  refine E_bin rfl (nJ_add _ _) ?_
  refine E_sld rfl (by omega) hL ?_
  refine E_call rfl (tQ_int (by decide +kernel) (by decide +kernel) I.2 (top_int (as := [.ref 0, .int (xs ((i + 1))), .int (xs ((i + 2)))]) q593 (by decide +kernel) (by decide +kernel) I.1 ⟨rfl, aI _, aI _, trivial⟩)) (chkR (a := 0) I.1.1 rfl rfl rfl rfl (by show 0 ≤ 8; decide)) (fun h1 r1 => ?_)
  rintro ⟨I1, x1, f1⟩
  rw [f1]
  show Ends _ _ (1490, lv, [.int x1], h1, 599897, 7298671) _
  refine E_pop rfl rfl ?_
  refine E_al rfl L2 ?_
  refine E_alr rfl L0 ?_
  refine E_il rfl L3 ?_
  refine E_ci 1 rfl (by decide) ?_
  refine E_bin rfl (nJ_add _ _) ?_
  refine E_sld rfl (by omega) hL ?_
  refine E_alr rfl L0 ?_
  refine E_il rfl L3 ?_
  refine E_ci 2 rfl (by decide) ?_
  refine E_bin rfl (nJ_add _ _) ?_
  refine E_sld rfl (by omega) hL ?_
  refine E_call rfl (tQ_int (by decide +kernel) (by decide +kernel) I1.2 (top_int (as := [.ref 77, .int (xs ((i + 1))), .int (xs ((i + 2)))]) q595 (by decide +kernel) (by decide +kernel) I1.1 ⟨rfl, aI _, aI _, trivial⟩)) (chkR (a := 77) I1.1.1 rfl rfl rfl rfl (by show 0 ≤ 8; decide)) (fun h2 r2 => ?_)
  rintro ⟨I2, x2, f2⟩
  rw [f2]
  show Ends _ _ (1505, lv, [.int x2], h2, 599897, 7298671) _
  refine E_pop rfl rfl ?_
  refine E_goto rfl ?_
  exact K _ I2
set_option maxRecDepth 20000 in
theorem bl_51 {L : Nat} {xs : Nat → Int32} (hL : L ≤ 3072) {h : pm_H} {i : Nat} (hi : i + 6 ≤ L) (lv : List (Nat × Value)) (I : IVQ h) (L0 : pm_get lv 0 = some (.retAddr 0)) (L1 : pm_get lv 1 = some (.ref 0)) (L2 : pm_get lv 2 = some (.ref 77)) (L3 : pm_get lv 3 = some (.int (nJ i))) (K : ∀ h', IVQ h' → Ends (pm_tr (lb_all L xs)) (pm_Rt pm_P 100) (2392, lv, [], h', 599897, 7298671) RQ1) : Ends (pm_tr (lb_all L xs)) (pm_Rt pm_P 100) (1509, lv, [], h, 599897, 7298671) RQ1 := by
  refine E_al rfl L1 ?_
  refine E_call rfl (tQ_int (by decide +kernel) (by decide +kernel) I.2 (top_int (as := [.ref 0]) q599 (by decide +kernel) (by decide +kernel) I.1 ⟨rfl, trivial⟩)) (chkR (a := 0) I.1.1 rfl rfl rfl rfl (by show 0 ≤ 8; decide)) (fun h1 r1 => ?_)
  rintro ⟨I1, x1, f1⟩
  rw [f1]
  show Ends _ _ (1513, lv, [.int x1], h1, 599897, 7298671) _
  refine E_pop rfl rfl ?_
  refine E_al rfl L2 ?_
  refine E_call rfl (tQ_int (by decide +kernel) (by decide +kernel) I1.2 (top_int (as := [.ref 77]) q602 (by decide +kernel) (by decide +kernel) I1.1 ⟨rfl, trivial⟩)) (chkR (a := 77) I1.1.1 rfl rfl rfl rfl (by show 0 ≤ 8; decide)) (fun h2 r2 => ?_)
  rintro ⟨I2, x2, f2⟩
  rw [f2]
  show Ends _ _ (1518, lv, [.int x2], h2, 599897, 7298671) _
  refine E_pop rfl rfl ?_
  refine E_goto rfl ?_
  exact K _ I2
set_option maxRecDepth 20000 in
theorem bl_52 {L : Nat} {xs : Nat → Int32} (hL : L ≤ 3072) {h : pm_H} {i : Nat} (hi : i + 6 ≤ L) (lv : List (Nat × Value)) (I : IVQ h) (L0 : pm_get lv 0 = some (.retAddr 0)) (L1 : pm_get lv 1 = some (.ref 0)) (L2 : pm_get lv 2 = some (.ref 77)) (L3 : pm_get lv 3 = some (.int (nJ i))) (K : ∀ h', IVQ h' → Ends (pm_tr (lb_all L xs)) (pm_Rt pm_P 100) (2392, lv, [], h', 599897, 7298671) RQ1) : Ends (pm_tr (lb_all L xs)) (pm_Rt pm_P 100) (1522, lv, [], h, 599897, 7298671) RQ1 := by
  refine E_al rfl L1 ?_
  refine E_call rfl (tQ_int (by decide +kernel) (by decide +kernel) I.2 (top_int (as := [.ref 0]) q603 (by decide +kernel) (by decide +kernel) I.1 ⟨rfl, trivial⟩)) (chkR (a := 0) I.1.1 rfl rfl rfl rfl (by show 0 ≤ 8; decide)) (fun h1 r1 => ?_)
  rintro ⟨I1, x1, f1⟩
  rw [f1]
  show Ends _ _ (1526, lv, [.int x1], h1, 599897, 7298671) _
  refine E_pop rfl rfl ?_
  refine E_al rfl L2 ?_
  refine E_call rfl (tQ_int (by decide +kernel) (by decide +kernel) I1.2 (top_int (as := [.ref 77]) q604 (by decide +kernel) (by decide +kernel) I1.1 ⟨rfl, trivial⟩)) (chkR (a := 77) I1.1.1 rfl rfl rfl rfl (by show 0 ≤ 8; decide)) (fun h2 r2 => ?_)
  rintro ⟨I2, x2, f2⟩
  rw [f2]
  show Ends _ _ (1531, lv, [.int x2], h2, 599897, 7298671) _
  refine E_pop rfl rfl ?_
  refine E_goto rfl ?_
  exact K _ I2
set_option maxRecDepth 20000 in
theorem bl_53 {L : Nat} {xs : Nat → Int32} (hL : L ≤ 3072) {h : pm_H} {i : Nat} (hi : i + 6 ≤ L) (lv : List (Nat × Value)) (I : IVQ h) (L0 : pm_get lv 0 = some (.retAddr 0)) (L1 : pm_get lv 1 = some (.ref 0)) (L2 : pm_get lv 2 = some (.ref 77)) (L3 : pm_get lv 3 = some (.int (nJ i))) (K : ∀ h', IVQ h' → Ends (pm_tr (lb_all L xs)) (pm_Rt pm_P 100) (2392, lv, [], h', 599897, 7298671) RQ1) : Ends (pm_tr (lb_all L xs)) (pm_Rt pm_P 100) (1535, lv, [], h, 599897, 7298671) RQ1 := by
  refine E_al rfl L1 ?_
  refine E_call rfl (tQ_int (by decide +kernel) (by decide +kernel) I.2 (top_int (as := [.ref 0]) q605 (by decide +kernel) (by decide +kernel) I.1 ⟨rfl, trivial⟩)) (chkR (a := 0) I.1.1 rfl rfl rfl rfl (by show 0 ≤ 8; decide)) (fun h1 r1 => ?_)
  rintro ⟨I1, x1, f1⟩
  rw [f1]
  show Ends _ _ (1539, lv, [.int x1], h1, 599897, 7298671) _
  refine E_pop rfl rfl ?_
  refine E_al rfl L2 ?_
  refine E_call rfl (tQ_int (by decide +kernel) (by decide +kernel) I1.2 (top_int (as := [.ref 77]) q606 (by decide +kernel) (by decide +kernel) I1.1 ⟨rfl, trivial⟩)) (chkR (a := 77) I1.1.1 rfl rfl rfl rfl (by show 0 ≤ 8; decide)) (fun h2 r2 => ?_)
  rintro ⟨I2, x2, f2⟩
  rw [f2]
  show Ends _ _ (1544, lv, [.int x2], h2, 599897, 7298671) _
  refine E_pop rfl rfl ?_
  refine E_goto rfl ?_
  exact K _ I2
set_option maxRecDepth 20000 in
theorem bl_54 {L : Nat} {xs : Nat → Int32} (hL : L ≤ 3072) {h : pm_H} {i : Nat} (hi : i + 6 ≤ L) (lv : List (Nat × Value)) (I : IVQ h) (L0 : pm_get lv 0 = some (.retAddr 0)) (L1 : pm_get lv 1 = some (.ref 0)) (L2 : pm_get lv 2 = some (.ref 77)) (L3 : pm_get lv 3 = some (.int (nJ i))) (K : ∀ h', IVQ h' → Ends (pm_tr (lb_all L xs)) (pm_Rt pm_P 100) (2392, lv, [], h', 599897, 7298671) RQ1) : Ends (pm_tr (lb_all L xs)) (pm_Rt pm_P 100) (1548, lv, [], h, 599897, 7298671) RQ1 := by
  refine E_al rfl L1 ?_
  refine E_call rfl (tQ_int (by decide +kernel) (by decide +kernel) I.2 (top_int (as := [.ref 0]) q615 (by decide +kernel) (by decide +kernel) I.1 ⟨rfl, trivial⟩)) (chkR (a := 0) I.1.1 rfl rfl rfl rfl (by show 0 ≤ 8; decide)) (fun h1 r1 => ?_)
  rintro ⟨I1, x1, f1⟩
  rw [f1]
  show Ends _ _ (1552, lv, [.int x1], h1, 599897, 7298671) _
  refine E_pop rfl rfl ?_
  refine E_al rfl L2 ?_
  refine E_call rfl (tQ_int (by decide +kernel) (by decide +kernel) I1.2 (top_int (as := [.ref 77]) q619 (by decide +kernel) (by decide +kernel) I1.1 ⟨rfl, trivial⟩)) (chkR (a := 77) I1.1.1 rfl rfl rfl rfl (by show 0 ≤ 8; decide)) (fun h2 r2 => ?_)
  rintro ⟨I2, x2, f2⟩
  rw [f2]
  show Ends _ _ (1557, lv, [.int x2], h2, 599897, 7298671) _
  refine E_pop rfl rfl ?_
  refine E_goto rfl ?_
  exact K _ I2
end
