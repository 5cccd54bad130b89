section
noncomputable def S313 : Sum1 := (194, [cR 0], [], [], [(64, 5, 6), (65, 1, 8), (66, 0, 8), (67, 1, 8), (69, 0, 8)], [([cR 0], [], [], some (.inl (cI (-2147483648) 2147483647)))])
theorem q313 : sum_g w0 (pm_Rt pm_P 5) S313 := meth_okB (d := 4) (cuts := []) (spl := []) (K := [0]) (N := 12) (sums := [S158, S308, S311, S300]) aiX8_turned (abX8_turned w0) (by decide) (List.forall_mem_cons.mpr ⟨sum_up q158 3, List.forall_mem_cons.mpr ⟨sum_up q308 2, List.forall_mem_cons.mpr ⟨sum_up q311 0, List.forall_mem_cons.mpr ⟨sum_up q300 3, fun _ h => absurd h List.not_mem_nil⟩⟩⟩⟩) (by decide +kernel)
noncomputable def S314 : Sum1 := (197, [cR 0, cI (-2147483648) 2147483647], [], [], [(64, 5, 6), (65, 1, 8), (66, 0, 8), (67, 1, 8), (69, 0, 8)], [([cR 0, cI (-2147483648) 2147483647], [], [], some (.inl (cI (-2) 8)))])
theorem q314 : sum_g w0 (pm_Rt pm_P 5) S314 := meth_okB (d := 4) (cuts := []) (spl := []) (K := [0, 1]) (N := 24) (sums := [S158, S308, S311]) aiX8_visit (abX8_visit w0) (by decide) (List.forall_mem_cons.mpr ⟨sum_up q158 3, List.forall_mem_cons.mpr ⟨sum_up q308 2, List.forall_mem_cons.mpr ⟨sum_up q311 0, fun _ h => absurd h List.not_mem_nil⟩⟩⟩) (by decide +kernel)
noncomputable def S315 : Sum1 := (130, [cR 0, cI (-2147483648) 2147483647], [], [], [], [([cR 0, cI 0 7], [((15, 0), 1, 8)], [], some (.inl (cI 1 1))), ([cR 0, cI (-2147483648) 2147483647], [], [], some (.inl (cI 0 0)))])
theorem q315 : sum_g w0 (pm_Rt pm_P 1) S315 := meth_okB (d := 0) (cuts := []) (spl := []) (K := [0, 1]) (N := 11) (sums := []) aiX8_isTreeCar (abX8_isTreeCar w0) (by decide) (fun _ h => absurd h List.not_mem_nil) (by decide +kernel)
noncomputable def S316 : Sum1 := (127, [cI (-2147483648) 2147483647], [], [], [], [([cI 0 3], [], [], some (.inl (cI 1 1))), ([cI (-2147483648) 2147483647], [], [], some (.inl (cI 0 0)))])
theorem q316 : sum_g w0 (pm_Rt pm_P 1) S316 := meth_okB (d := 0) (cuts := []) (spl := []) (K := [0]) (N := 9) (sums := []) aiX8_isSlot (abX8_isSlot w0) (by decide) (fun _ h => absurd h List.not_mem_nil) (by decide +kernel)
noncomputable def ah2_X8_readCode : List (Nat × AR w0) := [(0, .inl (R_il 1 1)), (1, .inr (.inl (127, 1, none, 0, 0))), (4, .inl (R_if1_eq 11 7)), (7, .inl (R_il 2 8)), (8, .inl (R_if1_ne 14 11)), (11, .inl (R_const (.int (-2)) 13)), (13, .inr (.inr 1)), (14, .inl (R_al 0 15)), (15, .inl (R_getf 8 5 18)), (18, .inl (R_il 1 19)), (19, .inl (R_aald 5 20)), (20, .inl (R_as 3 21)), (21, .inl (R_al 3 22)), (22, .inl (R_getf 4 1 25)), (25, .inl (R_if1_ne 31 28)), (28, .inl (R_const (.int (-6)) 30)), (30, .inr (.inr 1)), (31, .inl (R_al 3 32)), (32, .inl (R_getf 4 3 35)), (35, .inl (R_al 0 36)), (36, .inl (R_getf 8 2 39)), (39, .inl (R_getf 5 0 42)), (42, .inl (R_const (.int 1) 43)), (43, .inl (R_sub 44)), (44, .inl (R_if2_eq 50 47)), (47, .inl (R_const (.int (-2)) 49)), (49, .inr (.inr 1)), (50, .inl (R_const (.int 0) 51)), (51, .inl (R_h (R_h (R_h (R_h (R_is 4 53) (l_nil 4) (l_nil_ok 4)) (l_nil 5) (l_nil_ok 5)) (l_nil 6) (l_nil_ok 6)) (l_nil 7) (l_nil_ok 7))), (53, .inl (R_il 4 55)), (55, .inl (R_al 3 56)), (56, .inl (R_getf 4 3 59)), (59, .inl (R_if2_ge 102 62)), (62, .inl (R_al 3 63)), (63, .inl (R_getf 4 0 66)), (66, .inl (R_il 4 68)), (68, .inl (R_lalm 69)), (69, .inl (R_const (.long 0) 70)), (70, .inl (R_lcmp 71)), (71, .inl (R_if1_lt 93 74)), (74, .inl (R_al 3 75)), (75, .inl (R_getf 4 0 78)), (78, .inl (R_il 4 80)), (80, .inl (R_lalm 81)), (81, .inl (R_al 0 82)), (82, .inl (R_getf 8 2 85)), (85, .inl (R_getf 5 0 88)), (88, .inl (R_i2l 89)), (89, .inl (R_lcmp 90)), (90, .inl (R_if1_le 96 93)), (93, .inl (R_const (.int (-2)) 95)), (95, .inr (.inr 1)), (96, .inl (R_h (R_h (R_h (R_h (R_inc 4 1 99) (l_step 4) (l_step_ok 4)) (l_step 5) (l_step_ok 5)) (l_step 6) (l_step_ok 6)) (l_step 7) (l_step_ok 7))), (99, .inl (R_goto 53)), (102, .inl (R_h (R_h (R_h (R_h (R_al 0 103) (l_dint 4) (l_dint_ok 4)) (l_dint 5) (l_dint_ok 5)) (l_dint 6) (l_dint_ok 6)) (l_dint 7) (l_dint_ok 7))), (103, .inl (R_getf 8 7 106)), (106, .inl (R_al 3 107)), (107, .inl (R_getf 4 0 110)), (110, .inl (R_al 0 111)), (111, .inl (R_getf 8 2 114)), (114, .inl (R_getf 5 0 117)), (117, .inr (.inl (62, 3, some 7, 0, 0))), (120, .inl (R_const (.int 0) 121)), (121, .inr (.inr 1))]
set_option maxRecDepth 20000 in
theorem bah2_X8_readCode : iX8_readCode.2.2.2.2.2.2.2 = ar_tab ah2_X8_readCode := rfl
noncomputable def S317 : Sum1 := (165, [cR 0, cI (-2147483648) 2147483647, cI 0 0], [], [], [], [([cR 0, cI (-2147483648) 2147483647, cI 0 0], [], [], some (.inl (cI (-2) (-2))))])
theorem q317 : sum_g w0 (pm_Rt pm_P 2) S317 := meth_okB (d := 1) (cuts := []) (spl := [39]) (K := [0, 1, 2]) (N := 8) (sums := [S316]) aiX8_readCode bah2_X8_readCode (by decide) (List.forall_mem_cons.mpr ⟨sum_up q316 0, fun _ h => absurd h List.not_mem_nil⟩) (by decide +kernel)
noncomputable def S322 : Sum1 := (64, [cR 64], [], [], [(64, 6, 6), (65, 1, 8), (66, 0, 8)], [([cR 64], [], [], none)])
theorem q322 : sum_g w0 (pm_Rt pm_P 2) S322 := meth_okB (d := 1) (cuts := [(11, [([(0, cR 64), (1, cI (-2147483648) 2147483647), (2, cI 0 9)], [], [((64, 5), 0, 9)], [], [.inl 0, .inr (.inl 2, true), .inl 1])]), (29, [([(0, cR 64), (1, cI (-2147483648) 2147483647), (2, cI 0 8), (3, cI 0 8), (4, cI 1 9)], [], [((64, 5), 1, 9)], [], [.inl 0, .inr (.inl 2, true), .inl 0, .inr (.inl 4, true), .inl 0])])]) (spl := []) (K := [0]) (N := 30) (sums := [S286]) aiX7_hangByLimbs (abX7_hangByLimbs w0) (by decide) (List.forall_mem_cons.mpr ⟨sum_up q286 0, fun _ h => absurd h List.not_mem_nil⟩) (by decide +kernel)
noncomputable def S331 : Sum1 := (57, [cR 64, cI 0 8, cI 0 8], [], [], [(68, 0, 8)], [([cR 64, cI 0 8, cI 0 8], [], [], none)])
theorem q331 : sum_g w0 (pm_Rt pm_P 1) S331 := meth_okB (d := 0) (cuts := []) (spl := []) (K := [0, 1, 2]) (N := 22) (sums := []) aiX7_addLimb (abX7_addLimb w0) (by decide) (fun _ h => absurd h List.not_mem_nil) (by decide +kernel)
end
section
/-! what is known of the methods, checked (written by emit.py) -/
end
section
/-! what is known of the methods, checked (written by emit.py) -/
end
section
/-! what is known of the methods, checked (written by emit.py) -/
noncomputable def S483 : Sum1 := (165, [cR 0, cI (-2147483648) 2147483647, cI 1 1], [], [], [(64, 5, 6), (65, 1, 8), (66, 0, 8), (68, 0, 8)], [([cR 0, cI (-2147483648) 2147483647, cI 1 1], [], [], some (.inl (cI (-6) (-2)))), ([cR 0, cI 0 3, cI 1 1], [((15, 0), 1, 8), ((64, 5), 2, 9)], [], some (.inl (cI 0 0)))])
/-! by hand: decode and readCode of the class (S483 in place of the executor's check of 159 summaries; wants q285, q302, q305, q322, q331) -/
noncomputable def RF7 : List Rng := [(64, 5, 6), (65, 1, 8), (66, 0, 8), (68, 0, 8)]
section RDC
variable {h : pm_H} {d : Nat} {x : Int32}
theorem sp_begin7 {p : Nat} (hh : HH h) (p8 : p ≤ 8) : Sp (d + 1) 58 h [.ref 64, .int (nJ p)] (fun h' r => r = none ∧ HH h' ∧ fr_g RF7 h h' ∧ gi h' 64 5 = nJ (p + 1)) := by
  refine Sp_of aiX7_begin rfl rfl rfl ?_
  have L0 : pm_get (lv_args 0 [.ref 64, .int (nJ p)]) 0 = some (.ref 64) := rfl
  have L1 : pm_get (lv_args 0 [.ref 64, .int (nJ p)]) 1 = some (.int (nJ p)) := rfl
  generalize lv_args 0 [.ref 64, .int (nJ p)] = lv at L0 L1 ⊢
  refine E_al rfl L0 ?_
  refine E_il rfl L1 ?_
  refine E_ci 1 rfl ci1 ?_
  refine E_bin rfl (nJ_add _ _) ?_
  refine E_opf (q := (0, 9)) rfl hh rfl rfl ?_
  have h1 : HH (pt h 64 5 (nJ (p + 1))) := HH_ptn hh rfl (by omega) (by omega) (by omega)
  refine E_al rfl L0 ?_
  refine E_ci 1 rfl ci1 ?_
  refine E_opf (q := (0, 9)) rfl h1 rfl rfl ?_
  have h2 : HH (pt (pt h 64 5 (nJ (p + 1))) 64 6 (nJ 1)) := HH_ptn h1 rfl (by omega) (by omega) (by omega)
  refine E_al rfl L0 ?_
  refine E_ogr (q := 66) rfl h2 rfl rfl ?_
  refine E_ci 0 rfl ci0 ?_
  refine E_ci 0 rfl ci0 ?_
  refine E_ias rfl h2 rfl (by omega) (by decide) ?_
  refine E_ret rfl ⟨rfl, HH_ptn h2 (bd_u rfl (by omega)) (by omega) (by omega) (by omega), fr_ptr (l := 0) (u := 8) rfl (by omega) (by omega) (fr_ptr (l := 5) (u := 6) rfl (by omega) (by omega) (fr_ptr (l := 5) (u := 6) rfl (by omega) (by omega) (fr_rf _ _))), ?_⟩
  rw [gi_ne (by first | exact gxx rfl | omega), gi_ne (by first | exact gxx rfl | omega)]
  exact gi_pt hh (q := (0, 9)) rfl (by rw [nJ_toInt (by omega)]; show (0 : Int) ≤ _; omega) (by rw [nJ_toInt (by omega)]; show _ ≤ (9 : Int); omega)
theorem sp_low7 (hh : HH h) (x0 : 0 ≤ x.toInt) (x5 : x.toInt ≤ 511) : Sp 1 70 h [.int x] (fun h' r => h' = h ∧ ∃ e, e ≤ 8 ∧ r = some (.int (nJ e))) := by
  refine Sp_of aiX7_lowestBit rfl rfl rfl ?_
  have L0 : pm_get (lv_args 0 [.int x]) 0 = some (.int x) := rfl
  generalize lv_args 0 [.int x] = lv at L0 ⊢
  refine E_ci 0 rfl ci0 ?_
  refine E_is rfl (fun lv1 K1 kp => ?_)
  have M0 := kp 0 _ (nbz rfl) rfl L0
  have loop : ∀ (j : Nat) {k : Nat} (lv : List (Nat × Value)), k + j = 9 → pm_get lv 0 = some (.int x) → pm_get lv 1 = some (.int (nJ k)) → Ends (pm_at tX7_lowestBit) (pm_Rt pm_P 0) (2, lv, [], h, 0, 0) (fun h' r => h' = h ∧ ∃ e, e ≤ 8 ∧ r = some (.int (nJ e))) := by
    intro j
    induction j with
    | zero =>
      intro k lv hj L0 L1
      refine E_il rfl L1 ?_
      refine E_ci 9 rfl ci9 ?_
      refine E_icT rfl (decide_eq_true ((nJ_le (by omega) (by omega)).mpr (by omega))) ?_
      refine E_ci 0 rfl ci0 ?_
      exact E_rti rfl ⟨rfl, 0, by omega, rfl⟩
    | succ j ih =>
      intro k lv hj L0 L1
      refine E_il rfl L1 ?_
      refine E_ci 9 rfl ci9 ?_
      refine E_icF rfl (decide_eq_false (fun q => absurd ((nJ_le (by omega) (by omega)).mp q) (by omega))) ?_
      refine E_il rfl L0 ?_
      refine E_il rfl L1 ?_
      refine E_bin rfl rfl ?_
      refine E_ci 1 rfl ci1 ?_
      refine E_bin rfl rfl ?_
      by_cases b : x >>> (nJ k &&& 31) &&& nJ 1 = 0
      · refine E_ifT rfl (decide_eq_true b) ?_
        refine E_inc rfl L1 (nJ_inc _) (fun lv1 K1 kp => ?_)
        refine E_goto rfl ?_
        exact ih lv1 (by omega) (kp 0 _ (nbz rfl) rfl L0) K1
      · refine E_ifF rfl (decide_eq_false b) ?_
        refine E_il rfl L1 ?_
        exact E_rti rfl ⟨rfl, k, by omega, rfl⟩
  exact loop 9 lv1 (by omega) M0 K1
end RDC
end
