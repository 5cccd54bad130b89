section
set_option maxRecDepth 20000 in
theorem bl_74 {L : Nat} {xs : Nat → Int32} (hL : L ≤ 3072) {h : pm_H} {i : Nat} (hi : i + 6 ≤ L) (lv : List (Nat × Value)) (I : IVQ h) (L0 : pm_get lv 0 = some (.retAddr 0)) (L1 : pm_get lv 1 = some (.ref 0)) (L2 : pm_get lv 2 = some (.ref 77)) (L3 : pm_get lv 3 = some (.int (nJ i))) (K : ∀ h', IVQ h' → Ends (pm_tr (lb_all L xs)) (pm_Rt pm_P 100) (2392, lv, [], h', 599897, 7298671) RQ1) : Ends (pm_tr (lb_all L xs)) (pm_Rt pm_P 100) (2068, lv, [], h, 599897, 7298671) RQ1 := by
  refine E_al rfl L1 ?_
  refine E_alr rfl L0 ?_
  refine E_il rfl L3 ?_
  refine E_ci 1 rfl (by decide) ?_
  refine E_bin rfl (nJ_add _ _) ?_
  refine E_sld rfl (by omega) hL ?_
  refine E_alr rfl L0 ?_
  refine E_il rfl L3 ?_
  refine E_ci 2 rfl (by decide) ?_
  refine E_bin rfl (nJ_add _ _) ?_
  refine E_sld rfl (by omega) hL ?_
  refine E_alr rfl L0 ?_
  refine E_il rfl L3 ?_
  refine E_ci 3 rfl (by decide) ?_
  refine E_bin rfl (nJ_add _ _) ?_
  refine E_sld rfl (by omega) hL ?_
  refine E_call rfl (tQ_int (by decide +kernel) (by decide +kernel) I.2 (top_int (as := [.ref 0, .int (xs ((i + 1))), .int (xs ((i + 2))), .int (xs ((i + 3)))]) q891 (by decide +kernel) (by decide +kernel) I.1 ⟨rfl, aI _, aI _, aI _, trivial⟩)) (chkR (a := 0) I.1.1 rfl rfl rfl rfl (by show 0 ≤ 8; decide)) (fun h1 r1 => ?_)
  rintro ⟨I1, x1, f1⟩
  rw [f1]
  show Ends _ _ (2087, lv, [.int x1], h1, 599897, 7298671) _
  refine E_pop rfl rfl ?_
  refine E_al rfl L2 ?_
  refine E_alr rfl L0 ?_
  refine E_il rfl L3 ?_
  refine E_ci 1 rfl (by decide) ?_
  refine E_bin rfl (nJ_add _ _) ?_
  refine E_sld rfl (by omega) hL ?_
  refine E_alr rfl L0 ?_
  refine E_il rfl L3 ?_
  refine E_ci 2 rfl (by decide) ?_
  refine E_bin rfl (nJ_add _ _) ?_
  refine E_sld rfl (by omega) hL ?_
  refine E_alr rfl L0 ?_
  refine E_il rfl L3 ?_
  refine E_ci 3 rfl (by decide) ?_
  refine E_bin rfl (nJ_add _ _) ?_
  refine E_sld rfl (by omega) hL ?_
  refine E_call rfl (tQ_int (by decide +kernel) (by decide +kernel) I1.2 (top_int (as := [.ref 77, .int (xs ((i + 1))), .int (xs ((i + 2))), .int (xs ((i + 3)))]) q894 (by decide +kernel) (by decide +kernel) I1.1 ⟨rfl, aI _, aI _, aI _, trivial⟩)) (chkR (a := 77) I1.1.1 rfl rfl rfl rfl (by show 0 ≤ 8; decide)) (fun h2 r2 => ?_)
  rintro ⟨I2, x2, f2⟩
  rw [f2]
  show Ends _ _ (2107, lv, [.int x2], h2, 599897, 7298671) _
  refine E_pop rfl rfl ?_
  refine E_goto rfl ?_
  exact K _ I2
set_option maxRecDepth 20000 in
theorem bl_75 {L : Nat} {xs : Nat → Int32} (hL : L ≤ 3072) {h : pm_H} {i : Nat} (hi : i + 6 ≤ L) (lv : List (Nat × Value)) (I : IVQ h) (L0 : pm_get lv 0 = some (.retAddr 0)) (L1 : pm_get lv 1 = some (.ref 0)) (L2 : pm_get lv 2 = some (.ref 77)) (L3 : pm_get lv 3 = some (.int (nJ i))) (K : ∀ h', IVQ h' → Ends (pm_tr (lb_all L xs)) (pm_Rt pm_P 100) (2392, lv, [], h', 599897, 7298671) RQ1) : Ends (pm_tr (lb_all L xs)) (pm_Rt pm_P 100) (2111, lv, [], h, 599897, 7298671) RQ1 := by
  refine E_al rfl L1 ?_
  refine E_alr rfl L0 ?_
  refine E_il rfl L3 ?_
  refine E_ci 1 rfl (by decide) ?_
  refine E_bin rfl (nJ_add _ _) ?_
  refine E_sld rfl (by omega) hL ?_
  refine E_alr rfl L0 ?_
  refine E_il rfl L3 ?_
  refine E_ci 2 rfl (by decide) ?_
  refine E_bin rfl (nJ_add _ _) ?_
  refine E_sld rfl (by omega) hL ?_
  refine E_call rfl (g8_rate I) (chkR (a := 0) I.1.1 rfl rfl rfl rfl (by show 0 ≤ 8; decide)) (fun h1 r1 => ?_)
  rintro ⟨I1, x1, f1, J1⟩
  rw [f1]
  show Ends _ _ (2125, lv, [.int x1], h1, 599897, 7298671) _
  refine E_pop rfl rfl ?_
  refine E_al rfl L2 ?_
  refine E_alr rfl L0 ?_
  refine E_il rfl L3 ?_
  refine E_ci 1 rfl (by decide) ?_
  refine E_bin rfl (nJ_add _ _) ?_
  refine E_sld rfl (by omega) hL ?_
  refine E_alr rfl L0 ?_
  refine E_il rfl L3 ?_
  refine E_ci 2 rfl (by decide) ?_
  refine E_bin rfl (nJ_add _ _) ?_
  refine E_sld rfl (by omega) hL ?_
  refine E_call rfl (g9_rate I1 J1) (chkR (a := 77) I1.1 rfl rfl rfl rfl (by show 0 ≤ 8; decide)) (fun h2 r2 => ?_)
  rintro ⟨I2, f2⟩
  rw [f2]
  show Ends _ _ (2140, lv, [.int x1], h2, 599897, 7298671) _
  refine E_pop rfl rfl ?_
  refine E_goto rfl ?_
  exact K _ I2
set_option maxRecDepth 20000 in
theorem bl_76 {L : Nat} {xs : Nat → Int32} (hL : L ≤ 3072) {h : pm_H} {i : Nat} (hi : i + 6 ≤ L) (lv : List (Nat × Value)) (I : IVQ h) (L0 : pm_get lv 0 = some (.retAddr 0)) (L1 : pm_get lv 1 = some (.ref 0)) (L2 : pm_get lv 2 = some (.ref 77)) (L3 : pm_get lv 3 = some (.int (nJ i))) (K : ∀ h', IVQ h' → Ends (pm_tr (lb_all L xs)) (pm_Rt pm_P 100) (2392, lv, [], h', 599897, 7298671) RQ1) : Ends (pm_tr (lb_all L xs)) (pm_Rt pm_P 100) (2144, lv, [], h, 599897, 7298671) RQ1 := by
  refine E_al rfl L1 ?_
  refine E_alr rfl L0 ?_
  refine E_il rfl L3 ?_
  refine E_ci 1 rfl (by decide) ?_
  refine E_bin rfl (nJ_add _ _) ?_
  refine E_sld rfl (by omega) hL ?_
  refine E_call rfl (g8_count I) (chkR (a := 0) I.1.1 rfl rfl rfl rfl (by show 0 ≤ 8; decide)) (fun h1 r1 => ?_)
  rintro ⟨I1, x1, f1, J1⟩
  rw [f1]
  show Ends _ _ (2153, lv, [.int x1], h1, 599897, 7298671) _
  refine E_pop rfl rfl ?_
  refine E_al rfl L2 ?_
  refine E_alr rfl L0 ?_
  refine E_il rfl L3 ?_
  refine E_ci 1 rfl (by decide) ?_
  refine E_bin rfl (nJ_add _ _) ?_
  refine E_sld rfl (by omega) hL ?_
  refine E_call rfl (g9_count I1 J1) (chkR (a := 77) I1.1 rfl rfl rfl rfl (by show 0 ≤ 8; decide)) (fun h2 r2 => ?_)
  rintro ⟨I2, f2⟩
  rw [f2]
  show Ends _ _ (2163, lv, [.int x1], h2, 599897, 7298671) _
  refine E_pop rfl rfl ?_
  refine E_goto rfl ?_
  exact K _ I2
set_option maxRecDepth 20000 in
theorem bl_77 {L : Nat} {xs : Nat → Int32} (hL : L ≤ 3072) {h : pm_H} {i : Nat} (hi : i + 6 ≤ L) (lv : List (Nat × Value)) (I : IVQ h) (L0 : pm_get lv 0 = some (.retAddr 0)) (L1 : pm_get lv 1 = some (.ref 0)) (L2 : pm_get lv 2 = some (.ref 77)) (L3 : pm_get lv 3 = some (.int (nJ i))) (K : ∀ h', IVQ h' → Ends (pm_tr (lb_all L xs)) (pm_Rt pm_P 100) (2392, lv, [], h', 599897, 7298671) RQ1) : Ends (pm_tr (lb_all L xs)) (pm_Rt pm_P 100) (2167, lv, [], h, 599897, 7298671) RQ1 := by
  refine E_al rfl L1 ?_
  refine E_alr rfl L0 ?_
  refine E_il rfl L3 ?_
  refine E_ci 1 rfl (by decide) ?_
  refine E_bin rfl (nJ_add _ _) ?_
  refine E_sld rfl (by omega) hL ?_
  refine E_call rfl (g8_image I) (chkR (a := 0) I.1.1 rfl rfl rfl rfl (by show 0 ≤ 8; decide)) (fun h1 r1 => ?_)
  rintro ⟨I1, x1, f1, J1⟩
  rw [f1]
  show Ends _ _ (2176, lv, [.int x1], h1, 599897, 7298671) _
  refine E_pop rfl rfl ?_
  refine E_al rfl L2 ?_
  refine E_alr rfl L0 ?_
  refine E_il rfl L3 ?_
  refine E_ci 1 rfl (by decide) ?_
  refine E_bin rfl (nJ_add _ _) ?_
  refine E_sld rfl (by omega) hL ?_
  refine E_call rfl (g9_image I1 J1) (chkR (a := 77) I1.1 rfl rfl rfl rfl (by show 0 ≤ 8; decide)) (fun h2 r2 => ?_)
  rintro ⟨I2, f2⟩
  rw [f2]
  show Ends _ _ (2186, lv, [.int x1], h2, 599897, 7298671) _
  refine E_pop rfl rfl ?_
  refine E_goto rfl ?_
  exact K _ I2
set_option maxRecDepth 20000 in
theorem bl_78 {L : Nat} {xs : Nat → Int32} (hL : L ≤ 3072) {h : pm_H} {i : Nat} (hi : i + 6 ≤ L) (lv : List (Nat × Value)) (I : IVQ h) (L0 : pm_get lv 0 = some (.retAddr 0)) (L1 : pm_get lv 1 = some (.ref 0)) (L2 : pm_get lv 2 = some (.ref 77)) (L3 : pm_get lv 3 = some (.int (nJ i))) (K : ∀ h', IVQ h' → Ends (pm_tr (lb_all L xs)) (pm_Rt pm_P 100) (2392, lv, [], h', 599897, 7298671) RQ1) : Ends (pm_tr (lb_all L xs)) (pm_Rt pm_P 100) (2190, lv, [], h, 599897, 7298671) RQ1 := by
  refine E_al rfl L1 ?_
  refine E_alr rfl L0 ?_
  refine E_il rfl L3 ?_
  refine E_ci 1 rfl (by decide) ?_
  refine E_bin rfl (nJ_add _ _) ?_
  refine E_sld rfl (by omega) hL ?_
  refine E_call rfl (g8_back I) (chkR (a := 0) I.1.1 rfl rfl rfl rfl (by show 0 ≤ 8; decide)) (fun h1 r1 => ?_)
  rintro ⟨I1, x1, f1, J1⟩
  rw [f1]
  show Ends _ _ (2199, lv, [.int x1], h1, 599897, 7298671) _
  refine E_pop rfl rfl ?_
  refine E_al rfl L2 ?_
  refine E_alr rfl L0 ?_
  refine E_il rfl L3 ?_
  refine E_ci 1 rfl (by decide) ?_
  refine E_bin rfl (nJ_add _ _) ?_
  refine E_sld rfl (by omega) hL ?_
  refine E_call rfl (g9_back I1 J1) (chkR (a := 77) I1.1 rfl rfl rfl rfl (by show 0 ≤ 8; decide)) (fun h2 r2 => ?_)
  rintro ⟨I2, f2⟩
  rw [f2]
  show Ends _ _ (2209, lv, [.int x1], h2, 599897, 7298671) _
  refine E_pop rfl rfl ?_
  refine E_goto rfl ?_
  exact K _ I2
set_option maxRecDepth 20000 in
theorem bl_79 {L : Nat} {xs : Nat → Int32} (hL : L ≤ 3072) {h : pm_H} {i : Nat} (hi : i + 6 ≤ L) (lv : List (Nat × Value)) (I : IVQ h) (L0 : pm_get lv 0 = some (.retAddr 0)) (L1 : pm_get lv 1 = some (.ref 0)) (L2 : pm_get lv 2 = some (.ref 77)) (L3 : pm_get lv 3 = some (.int (nJ i))) (K : ∀ h', IVQ h' → Ends (pm_tr (lb_all L xs)) (pm_Rt pm_P 100) (2392, lv, [], h', 599897, 7298671) RQ1) : Ends (pm_tr (lb_all L xs)) (pm_Rt pm_P 100) (2213, lv, [], h, 599897, 7298671) RQ1 := by
  refine E_al rfl L1 ?_
  refine E_alr rfl L0 ?_
  refine E_il rfl L3 ?_
  refine E_ci 1 rfl (by decide) ?_
  refine E_bin rfl (nJ_add _ _) ?_
  refine E_sld rfl (by omega) hL ?_
  refine E_alr rfl L0 ?_
  refine E_il rfl L3 ?_
  refine E_ci 2 rfl (by decide) ?_
  refine E_bin rfl (nJ_add _ _) ?_
  refine E_sld rfl (by omega) hL ?_
  refine E_alr rfl L0 ?_
  refine E_il rfl L3 ?_
  refine E_ci 3 rfl (by decide) ?_
  refine E_bin rfl (nJ_add _ _) ?_
  refine E_sld rfl (by omega) hL ?_
  refine E_call rfl (g8_row I) (chkR (a := 0) I.1.1 rfl rfl rfl rfl (by show 0 ≤ 8; decide)) (fun h1 r1 => ?_)
  rintro ⟨I1, x1, f1, J1⟩
  rw [f1]
  show Ends _ _ (2232, lv, [.int x1], h1, 599897, 7298671) _
  refine E_pop rfl rfl ?_
  refine E_al rfl L2 ?_
  refine E_alr rfl L0 ?_
  refine E_il rfl L3 ?_
  refine E_ci 1 rfl (by decide) ?_
  refine E_bin rfl (nJ_add _ _) ?_
  refine E_sld rfl (by omega) hL ?_
  refine E_alr rfl L0 ?_
  refine E_il rfl L3 ?_
  refine E_ci 2 rfl (by decide) ?_
  refine E_bin rfl (nJ_add _ _) ?_
  refine E_sld rfl (by omega) hL ?_
  refine E_alr rfl L0 ?_
  refine E_il rfl L3 ?_
  refine E_ci 3 rfl (by decide) ?_
  refine E_bin rfl (nJ_add _ _) ?_
  refine E_sld rfl (by omega) hL ?_
  refine E_call rfl (g9_row I1 J1) (chkR (a := 77) I1.1 rfl rfl rfl rfl (by show 0 ≤ 8; decide)) (fun h2 r2 => ?_)
  rintro ⟨I2, f2⟩
  rw [f2]
  show Ends _ _ (2252, lv, [.int x1], h2, 599897, 7298671) _
  refine E_pop rfl rfl ?_
  refine E_goto rfl ?_
  exact K _ I2
end
