section
/-! what is known of the methods, checked (written by emit.py) -/
noncomputable def S527 : Sum1 := (287, [cR 77, cI 0 7], [], [], [(101, 0, 9)], [([cR 77, cI 0 7], [], [], some (.inl (cI 0 9)))])
theorem q527 : sum_g w0 (pm_Rt pm_P 4) S527 := meth_okB (d := 3) (cuts := []) (spl := []) (K := [0, 1]) (N := 22) (sums := [S525, S526]) aiX9_labelAt (abX9_labelAt w0) (by decide) (List.forall_mem_cons.mpr ⟨sum_up q525 0, List.forall_mem_cons.mpr ⟨sum_up q526 1, fun _ h => absurd h List.not_mem_nil⟩⟩) (by decide +kernel)
noncomputable def S528 : Sum1 := (286, [cR 77, cI (-2147483648) 2147483647], [], [], [(77, 0, 0), (101, 0, 9)], [([cR 77, cI (-2147483648) 2147483647], [], [], some (.inl (cI (-2) 9)))])
theorem q528 : sum_g w0 (pm_Rt pm_P 5) S528 := meth_okB (d := 4) (cuts := []) (spl := []) (K := [0, 1]) (N := 13) (sums := [S527, S521]) aiX9_label (abX9_label w0) (by decide) (List.forall_mem_cons.mpr ⟨sum_up q527 0, List.forall_mem_cons.mpr ⟨sum_up q521 2, fun _ h => absurd h List.not_mem_nil⟩⟩) (by decide +kernel)
noncomputable def S529 : Sum1 := (131, [cR 0, cI 1 8], [], [], [(70, 1, 1), (71, 1, 9)], [([cR 0, cI 1 8], [((70, 1), 1, 9)], [], none)])
theorem q529 : sum_g w0 (pm_Rt pm_P 3) S529 := meth_okB (d := 2) (cuts := [(18, [([(0, cR 0), (1, cI 1 8), (2, cI 0 8)], [], [((15, 0), 0, 8), ((70, 1), 1, 9)], [], [.inl 0, .inr (.inl 2, true), .inl 0])])]) (spl := []) (K := [0, 1]) (N := 19) (sums := [S516, S517]) aiX8_joinFirst (abX8_joinFirst w0) (by decide) (List.forall_mem_cons.mpr ⟨sum_up q516 0, List.forall_mem_cons.mpr ⟨sum_up q517 0, fun _ h => absurd h List.not_mem_nil⟩⟩) (by decide +kernel)
noncomputable def S530 : Sum1 := (149, [cR 0, cI (-2147483648) 2147483647], [], [], [(70, 1, 1), (71, 1, 9)], [([cR 0, cI (-2147483648) 2147483647], [], [], some (.inl (cI (-2) 511)))])
theorem q530 : sum_g w0 (pm_Rt pm_P 4) S530 := meth_okB (d := 3) (cuts := []) (spl := []) (K := [0, 1]) (N := 23) (sums := [S529]) aiX8_merged (abX8_merged w0) (by decide) (List.forall_mem_cons.mpr ⟨sum_up q529 0, fun _ h => absurd h List.not_mem_nil⟩) (by decide +kernel)
noncomputable def S531 : Sum1 := (294, [cR 77, cI 0 0, cI 1 8], [], [], [(101, 0, 9)], [([cR 77, cI 0 0, cI 1 8], [], [], none)])
theorem q531 : sum_g w0 (pm_Rt pm_P 3) S531 := meth_okB (d := 2) (cuts := [(2, [([(0, cR 77), (1, cI 0 0), (2, cI 1 8), (3, cI 0 10)], [], [], [], [.inl 1, .inr (.inl 3, true), .inl 0])]), (23, [([(0, cR 77), (1, cI 0 0), (2, cI 1 8), (3, cI 0 8)], [], [], [], [.inl 0, .inr (.inl 3, true), .inl 0])])]) (spl := []) (K := [0, 1, 2]) (N := 30) (sums := [S524]) aiX9_laysBlocks (abX9_laysBlocks w0) (by decide) (List.forall_mem_cons.mpr ⟨sum_up q524 0, fun _ h => absurd h List.not_mem_nil⟩) (by decide +kernel)
noncomputable def S532 : Sum1 := (216, [cR 77, cI 0 9, cI 1 9], [], [], [], [([cR 77, cI 0 9, cI 1 9], [], [], some (.inl (cI 0 511)))])
theorem q532 : sum_g w0 (pm_Rt pm_P 1) S532 := meth_okB (d := 0) (cuts := [(5, [([(0, cR 77), (1, cI 0 9), (2, cI 1 9), (3, cI 0 511), (4, cI 1 10)], [], [], [], [.inl 0, .inr (.inl 4, true), .inl 0])])]) (spl := []) (K := [0, 1, 2]) (N := 24) (sums := []) aiX9_blockBits (abX9_blockBits w0) (by decide) (fun _ h => absurd h List.not_mem_nil) (by decide +kernel)
noncomputable def S533 : Sum1 := (312, [cR 77, cI (-2147483648) 2147483647], [], [], [(77, 0, 0), (101, 0, 9)], [([cR 77, cI (-2147483648) 2147483647], [], [], some (.inl (cI (-2) 511)))])
theorem q533 : sum_g w0 (pm_Rt pm_P 4) S533 := meth_okB (d := 3) (cuts := []) (spl := []) (K := [0, 1]) (N := 27) (sums := [S140, S531, S532, S521]) aiX9_merged (abX9_merged w0) (by decide) (List.forall_mem_cons.mpr ⟨sum_up q140 2, List.forall_mem_cons.mpr ⟨sum_up q531 0, List.forall_mem_cons.mpr ⟨sum_up q532 2, List.forall_mem_cons.mpr ⟨sum_up q521 1, fun _ h => absurd h List.not_mem_nil⟩⟩⟩⟩) (by decide +kernel)
noncomputable def S534 : Sum1 := (85, [cR 0], [], [], [], [([cR 0], [], [], some (.inl (cI (-6) 9)))])
theorem q534 : sum_g w0 (pm_Rt pm_P 2) S534 := meth_okB (d := 1) (cuts := []) (spl := []) (K := [0]) (N := 14) (sums := [S158]) aiX8_blocks (abX8_blocks w0) (by decide) (List.forall_mem_cons.mpr ⟨sum_up q158 0, fun _ h => absurd h List.not_mem_nil⟩) (by decide +kernel)
noncomputable def S535 : Sum1 := (294, [cR 77, cI 0 0, cI 0 8], [], [], [(101, 0, 9)], [([cR 77, cI 0 0, cI 0 8], [], [], none)])
theorem q535 : sum_g w0 (pm_Rt pm_P 3) S535 := meth_okB (d := 2) (cuts := [(2, [([(0, cR 77), (1, cI 0 0), (2, cI 0 8), (3, cI 0 10)], [], [], [], [.inl 1, .inr (.inl 3, true), .inl 0])]), (23, [([(0, cR 77), (1, cI 0 0), (2, cI 0 8), (3, cI 0 8)], [], [], [], [.inl 0, .inr (.inl 3, true), .inl 0])])]) (spl := []) (K := [0, 1, 2]) (N := 30) (sums := [S524]) aiX9_laysBlocks (abX9_laysBlocks w0) (by decide) (List.forall_mem_cons.mpr ⟨sum_up q524 0, fun _ h => absurd h List.not_mem_nil⟩) (by decide +kernel)
noncomputable def S536 : Sum1 := (218, [cR 77], [], [], [], [([cR 77], [], [], some (.inl (cI (-2147483648) 2147483647)))])
theorem q536 : sum_g w0 (pm_Rt pm_P 2) S536 := meth_okB (d := 1) (cuts := [(4, [([(0, cR 77), (1, cI (-2147483648) 2147483647), (2, cI 1 10)], [], [], [], [.inl 0, .inr (.inl 2, true), .inl 0])])]) (spl := []) (K := [0]) (N := 20) (sums := [S140]) aiX9_blocksNow (abX9_blocksNow w0) (by decide) (List.forall_mem_cons.mpr ⟨sum_up q140 0, fun _ h => absurd h List.not_mem_nil⟩) (by decide +kernel)
noncomputable def S537 : Sum1 := (217, [cR 77], [], [], [(77, 0, 0), (101, 0, 9)], [([cR 77], [], [], some (.inl (cI (-2147483648) 2147483647)))])
theorem q537 : sum_g w0 (pm_Rt pm_P 4) S537 := meth_okB (d := 3) (cuts := []) (spl := []) (K := [0]) (N := 17) (sums := [S160, S536, S535]) aiX9_blocks (abX9_blocks w0) (by decide) (List.forall_mem_cons.mpr ⟨sum_up q160 2, List.forall_mem_cons.mpr ⟨sum_up q536 1, List.forall_mem_cons.mpr ⟨sum_up q535 0, fun _ h => absurd h List.not_mem_nil⟩⟩⟩) (by decide +kernel)
noncomputable def S538 : Sum1 := (115, [cR 0, cI (-2147483648) 2147483647], [], [], [], [([cR 0, cI (-2147483648) 2147483647], [], [], some (.inl (cI 0 0))), ([cR 0, cI 1 9], [((15, 0), 1, 8)], [], some (.inl (cI 1 1)))])
theorem q538 : sum_g w0 (pm_Rt pm_P 2) S538 := meth_okB (d := 1) (cuts := []) (spl := []) (K := [0, 1]) (N := 17) (sums := [S158]) aiX8_hasNumber (abX8_hasNumber w0) (by decide) (List.forall_mem_cons.mpr ⟨sum_up q158 0, fun _ h => absurd h List.not_mem_nil⟩) (by decide +kernel)
noncomputable def S539 : Sum1 := (131, [cR 0, cI 0 8], [], [], [(70, 1, 1), (71, 1, 9)], [([cR 0, cI 0 8], [((70, 1), 1, 9)], [], none)])
theorem q539 : sum_g w0 (pm_Rt pm_P 3) S539 := meth_okB (d := 2) (cuts := [(18, [([(0, cR 0), (1, cI 0 8), (2, cI 0 8)], [], [((15, 0), 0, 8), ((70, 1), 1, 9)], [], [.inl 0, .inr (.inl 2, true), .inl 0])])]) (spl := []) (K := [0, 1]) (N := 19) (sums := [S516, S517]) aiX8_joinFirst (abX8_joinFirst w0) (by decide) (List.forall_mem_cons.mpr ⟨sum_up q516 0, List.forall_mem_cons.mpr ⟨sum_up q517 0, fun _ h => absurd h List.not_mem_nil⟩⟩) (by decide +kernel)
noncomputable def S540 : Sum1 := (84, [cR 0, cI (-2147483648) 2147483647], [], [], [(70, 1, 1), (71, 1, 9)], [([cR 0, cI (-2147483648) 2147483647], [], [], some (.inl (cI (-2) 511)))])
theorem q540 : sum_g w0 (pm_Rt pm_P 4) S540 := meth_okB (d := 3) (cuts := []) (spl := []) (K := [0, 1]) (N := 16) (sums := [S539, S538]) aiX8_block (abX8_block w0) (by decide) (List.forall_mem_cons.mpr ⟨sum_up q539 0, List.forall_mem_cons.mpr ⟨sum_up q538 1, fun _ h => absurd h List.not_mem_nil⟩⟩) (by decide +kernel)
noncomputable def S541 : Sum1 := (261, [cL (-2147483648) 2147483647, cL 1 1, cL 1 9], [], [], [], [([cL (-2147483648) 2147483647, cL 1 1, cL 1 9], [], [], some (.inl (cI 0 0))), ([cL 1 9, cL 1 1, cL 1 9], [], [], some (.inl (cI 1 1)))])
theorem q541 : sum_g w0 (pm_Rt pm_P 1) S541 := meth_okB (d := 0) (cuts := []) (spl := []) (K := [0, 2, 4]) (N := 12) (sums := []) aiX9_in (abX9_in w0) (by decide) (fun _ h => absurd h List.not_mem_nil) (by decide +kernel)
noncomputable def S542 : Sum1 := (274, [cR 77, cI (-2147483648) 2147483647], [], [], [], [([cR 77, cI (-2147483648) 2147483647], [], [], some (.inl (cI 0 0))), ([cR 77, cI 1 9], [((83, 0), 1, 2147483647)], [], some (.inl (cI 1 1)))])
theorem q542 : sum_g w0 (pm_Rt pm_P 2) S542 := meth_okB (d := 1) (cuts := []) (spl := []) (K := [0, 1]) (N := 17) (sums := [S160, S140, S541]) aiX9_isNumber (abX9_isNumber w0) (by decide) (List.forall_mem_cons.mpr ⟨sum_up q160 0, List.forall_mem_cons.mpr ⟨sum_up q140 0, List.forall_mem_cons.mpr ⟨sum_up q541 0, fun _ h => absurd h List.not_mem_nil⟩⟩⟩) (by decide +kernel)
noncomputable def S543 : Sum1 := (216, [cR 77, cI 1 9, cI 1 9], [], [], [], [([cR 77, cI 1 9, cI 1 9], [], [], some (.inl (cI 0 511)))])
theorem q543 : sum_g w0 (pm_Rt pm_P 1) S543 := meth_okB (d := 0) (cuts := [(5, [([(0, cR 77), (1, cI 1 9), (2, cI 1 9), (3, cI 0 511), (4, cI 1 10)], [], [], [], [.inl 0, .inr (.inl 4, true), .inl 0])])]) (spl := []) (K := [0, 1, 2]) (N := 24) (sums := []) aiX9_blockBits (abX9_blockBits w0) (by decide) (fun _ h => absurd h List.not_mem_nil) (by decide +kernel)
noncomputable def S544 : Sum1 := (215, [cR 77, cI (-2147483648) 2147483647], [], [], [(77, 0, 0), (101, 0, 9)], [([cR 77, cI (-2147483648) 2147483647], [], [], some (.inl (cI (-2) 511)))])
theorem q544 : sum_g w0 (pm_Rt pm_P 4) S544 := meth_okB (d := 3) (cuts := []) (spl := []) (K := [0, 1]) (N := 23) (sums := [S140, S535, S543, S542]) aiX9_block (abX9_block w0) (by decide) (List.forall_mem_cons.mpr ⟨sum_up q140 2, List.forall_mem_cons.mpr ⟨sum_up q535 0, List.forall_mem_cons.mpr ⟨sum_up q543 2, List.forall_mem_cons.mpr ⟨sum_up q542 1, fun _ h => absurd h List.not_mem_nil⟩⟩⟩⟩) (by decide +kernel)
noncomputable def S545 : Sum1 := (14, [cR 70, cI 1 8], [], [], [], [([cR 70, cI 1 8], [], [], some (.inl (cI 1 1))), ([cR 70, cI 1 8], [], [], some (.inl (cI 0 0)))])
theorem q545 : sum_g w0 (pm_Rt pm_P 2) S545 := meth_okB (d := 1) (cuts := []) (spl := []) (K := [0, 1]) (N := 14) (sums := [S132]) aiX0_isLeast (abX0_isLeast w0) (by decide) (List.forall_mem_cons.mpr ⟨sum_up q132 0, fun _ h => absurd h List.not_mem_nil⟩) (by decide +kernel)
noncomputable def S546 : Sum1 := (160, [cI 2 9], [], [], [], [([cI 2 9], [], [], some (.inl (cI 2 256)))])
theorem q546 : sum_g w0 (pm_Rt pm_P 1) S546 := meth_okB (d := 0) (cuts := []) (spl := []) (K := [0]) (N := 7) (sums := []) aiX8_placeBit (abX8_placeBit w0) (by decide) (fun _ h => absurd h List.not_mem_nil) (by decide +kernel)
noncomputable def S547 : Sum1 := (14, [cR 70, cI 2 9], [], [], [], [([cR 70, cI 2 9], [], [], some (.inl (cI 1 1))), ([cR 70, cI 2 9], [], [], some (.inl (cI 0 0)))])
theorem q547 : sum_g w0 (pm_Rt pm_P 2) S547 := meth_okB (d := 1) (cuts := []) (spl := []) (K := [0, 1]) (N := 14) (sums := [S546]) aiX0_isLeast (abX0_isLeast w0) (by decide) (List.forall_mem_cons.mpr ⟨sum_up q546 0, fun _ h => absurd h List.not_mem_nil⟩) (by decide +kernel)
noncomputable def S548 : Sum1 := (12, [cR 70, cI 0 511, cI 0 511], [], [], [], [([cR 70, cI 0 511, cI 0 511], [], [], some (.inl (cI 1 1))), ([cR 70, cI 0 511, cI 0 511], [], [], some (.inl (cI 0 0)))])
theorem q548 : sum_g w0 (pm_Rt pm_P 2) S548 := meth_okB (d := 1) (cuts := [(8, [([(0, cR 70), (1, cI 0 511), (2, cI 0 511), (3, cI (-2147483648) 2147483647), (4, cI 0 2), (5, cI 1 10)], [], [], [], [.inl 0, .inr (.inl 5, true), .inl 0])])]) (spl := []) (K := [0, 1, 2]) (N := 29) (sums := [S58]) aiX0_crosses (abX0_crosses w0) (by decide) (List.forall_mem_cons.mpr ⟨sum_up q58 0, fun _ h => absurd h List.not_mem_nil⟩) (by decide +kernel)
noncomputable def S549 : Sum1 := (16, [cR 70, cI 1 8, cI 2 9], [], [], [], [([cR 70, cI 1 8, cI 2 9], [], [], some (.inl (cI 0 0))), ([cR 70, cI 1 8, cI 2 9], [((70, 1), 2, 9)], [], some (.inl (cI 1 1)))])
theorem q549 : sum_g w0 (pm_Rt pm_P 3) S549 := meth_okB (d := 2) (cuts := [(60, [([(0, cR 70), (1, cI 1 8), (2, cI 2 9), (3, cI 0 511), (4, cI 1 10)], [], [((70, 1), 2, 9)], [], [.inl 0, .inr (.inl 4, true), .inl 0])])]) (spl := []) (K := [0, 1, 2]) (N := 36) (sums := [S58, S548]) aiX0_joinable (abX0_joinable w0) (by decide) (List.forall_mem_cons.mpr ⟨sum_up q58 1, List.forall_mem_cons.mpr ⟨sum_up q548 0, fun _ h => absurd h List.not_mem_nil⟩⟩) (by decide +kernel)
noncomputable def S550 : Sum1 := (151, [cR 0], [], [], [(70, 1, 1), (71, 1, 9)], [([cR 0], [], [], some (.inl (cI (-2147483648) 2147483647)))])
theorem q550 : sum_g w0 (pm_Rt pm_P 4) S550 := meth_okB (d := 3) (cuts := [(25, [([(0, cR 0), (1, cI (-2147483648) 2147483647), (2, cI 1 9)], [], [((15, 0), 1, 8), ((15, 5), 0, 8), ((70, 1), 1, 9)], [], [.inl 0, .inr (.inl 2, true), .inl 1])]), (40, [([(0, cR 0), (1, cI (-2147483648) 2147483647), (2, cI 1 8), (3, cI 2 10)], [], [((15, 0), 1, 8), ((15, 5), 0, 8), ((70, 1), 1, 9)], [], [.inl 0, .inr (.inl 2, true), .inl 0, .inr (.inl 3, true), .inl 0])])]) (spl := []) (K := [0]) (N := 27) (sums := [S158, S545, S547, S539, S549]) aiX8_next (abX8_next w0) (by decide) (List.forall_mem_cons.mpr ⟨sum_up q158 2, List.forall_mem_cons.mpr ⟨sum_up q545 1, List.forall_mem_cons.mpr ⟨sum_up q547 1, List.forall_mem_cons.mpr ⟨sum_up q539 0, List.forall_mem_cons.mpr ⟨sum_up q549 0, fun _ h => absurd h List.not_mem_nil⟩⟩⟩⟩⟩) (by decide +kernel)
noncomputable def S551 : Sum1 := (375, [cR 77, cI 1 9, cI 1 9, cI 2 9], [], [], [], [([cR 77, cI 1 9, cI 1 9, cI 2 9], [], [], some (.inl (cI 0 0))), ([cR 77, cI 1 9, cI 1 9, cI 2 9], [], [], some (.inl (cI 0 9)))])
theorem q551 : sum_g w0 (pm_Rt pm_P 1) S551 := meth_okB (d := 0) (cuts := []) (spl := []) (K := [0, 1, 2, 3]) (N := 24) (sums := []) aiX9_withJoin (abX9_withJoin w0) (by decide) (fun _ h => absurd h List.not_mem_nil) (by decide +kernel)
noncomputable def S552 : Sum1 := (375, [cR 77, cI 2 9, cI 1 9, cI 2 9], [], [], [], [([cR 77, cI 2 9, cI 1 9, cI 2 9], [], [], some (.inl (cI 0 0))), ([cR 77, cI 2 9, cI 1 9, cI 2 9], [], [], some (.inl (cI 0 9)))])
theorem q552 : sum_g w0 (pm_Rt pm_P 1) S552 := meth_okB (d := 0) (cuts := []) (spl := []) (K := [0, 1, 2, 3]) (N := 24) (sums := []) aiX9_withJoin (abX9_withJoin w0) (by decide) (fun _ h => absurd h List.not_mem_nil) (by decide +kernel)
noncomputable def S553 : Sum1 := (375, [cR 77, cI 3 9, cI 1 9, cI 2 9], [], [], [], [([cR 77, cI 3 9, cI 1 9, cI 2 9], [], [], some (.inl (cI 0 0))), ([cR 77, cI 3 9, cI 1 9, cI 2 9], [], [], some (.inl (cI 0 9)))])
theorem q553 : sum_g w0 (pm_Rt pm_P 1) S553 := meth_okB (d := 0) (cuts := []) (spl := []) (K := [0, 1, 2, 3]) (N := 24) (sums := []) aiX9_withJoin (abX9_withJoin w0) (by decide) (fun _ h => absurd h List.not_mem_nil) (by decide +kernel)
noncomputable def S554 : Sum1 := (375, [cR 77, cI 4 9, cI 1 9, cI 2 9], [], [], [], [([cR 77, cI 4 9, cI 1 9, cI 2 9], [], [], some (.inl (cI 0 0))), ([cR 77, cI 4 9, cI 1 9, cI 2 9], [], [], some (.inl (cI 0 9)))])
theorem q554 : sum_g w0 (pm_Rt pm_P 1) S554 := meth_okB (d := 0) (cuts := []) (spl := []) (K := [0, 1, 2, 3]) (N := 24) (sums := []) aiX9_withJoin (abX9_withJoin w0) (by decide) (fun _ h => absurd h List.not_mem_nil) (by decide +kernel)
noncomputable def S555 : Sum1 := (309, [cR 77, cI 1 9, cI 2 9, cI 2 9], [], [], [], [([cR 77, cI 1 9, cI 2 9, cI 2 9], [], [], some (.inl (cI 0 0))), ([cR 77, cI 1 9, cI 2 9, cI 2 9], [], [], some (.inl (cI 1 1)))])
theorem q555 : sum_g w0 (pm_Rt pm_P 2) S555 := meth_okB (d := 1) (cuts := [(20, [([(0, cR 77), (1, cI 1 9), (2, cI 2 9), (3, cI 2 9), (4, cI 1 10)], [], [], [], [.inl 0, .inr (.inl 4, true), .inl 1])]), (32, [([(0, cR 77), (1, cI 1 9), (2, cI 2 9), (3, cI 2 9), (4, cI 1 9), (5, cI 2 10)], [], [], [], [.inl 0, .inr (.inl 4, true), .inl 0, .inr (.inl 5, true), .inl 1])]), (44, [([(0, cR 77), (1, cI 1 9), (2, cI 2 9), (3, cI 2 9), (4, cI 1 9), (5, cI 2 9), (6, cI 3 10)], [], [], [], [.inl 0, .inr (.inl 4, true), .inl 0, .inr (.inl 5, true), .inl 0, .inr (.inl 6, true), .inl 1])]), (56, [([(0, cR 77), (1, cI 1 9), (2, cI 2 9), (3, cI 3 9), (4, cI 1 9), (5, cI 2 9), (6, cI 3 9), (7, cI 4 10)], [], [], [], [.inl 0, .inr (.inl 4, true), .inl 0, .inr (.inl 5, true), .inl 0, .inr (.inl 6, true), .inl 0, .inr (.inl 7, true), .inl 0])])]) (spl := []) (K := [0, 1, 2, 3]) (N := 35) (sums := [S554, S553, S552, S551]) aiX9_mayJoin (abX9_mayJoin w0) (by decide) (List.forall_mem_cons.mpr ⟨sum_up q554 0, List.forall_mem_cons.mpr ⟨sum_up q553 0, List.forall_mem_cons.mpr ⟨sum_up q552 0, List.forall_mem_cons.mpr ⟨sum_up q551 0, fun _ h => absurd h List.not_mem_nil⟩⟩⟩⟩) (by decide +kernel)
noncomputable def S556 : Sum1 := (315, [cR 77], [], [], [(77, 0, 0), (101, 0, 9)], [([cR 77], [], [], some (.inl (cI (-2147483648) 2147483647)))])
theorem q556 : sum_g w0 (pm_Rt pm_P 4) S556 := meth_okB (d := 3) (cuts := [(30, [([(0, cR 77), (1, cI (-2147483648) 2147483647), (2, cI 1 10)], [], [((77, 0), 0, 0), ((83, 0), 1, 2147483647)], [], [.inl 0, .inr (.inl 2, true), .inl 1])]), (44, [([(0, cR 77), (1, cI (-2147483648) 2147483647), (2, cI 1 9), (3, cI 2 10)], [], [((77, 0), 0, 0), ((83, 0), 1, 2147483647)], [], [.inl 0, .inr (.inl 2, true), .inl 0, .inr (.inl 3, true), .inl 0])])]) (spl := []) (K := [0]) (N := 35) (sums := [S160, S140, S535, S555]) aiX9_next (abX9_next w0) (by decide) (List.forall_mem_cons.mpr ⟨sum_up q160 2, List.forall_mem_cons.mpr ⟨sum_up q140 2, List.forall_mem_cons.mpr ⟨sum_up q535 0, List.forall_mem_cons.mpr ⟨sum_up q555 1, fun _ h => absurd h List.not_mem_nil⟩⟩⟩⟩) (by decide +kernel)
noncomputable def S557 : Sum1 := (16, [cR 70, cI 1 9, cI 1 9], [], [], [], [([cR 70, cI 1 9, cI 1 9], [], [], some (.inl (cI 0 0))), ([cR 70, cI 1 9, cI 1 9], [((70, 1), 1, 9)], [], some (.inl (cI 1 1)))])
theorem q557 : sum_g w0 (pm_Rt pm_P 3) S557 := meth_okB (d := 2) (cuts := [(60, [([(0, cR 70), (1, cI 1 9), (2, cI 1 9), (3, cI 0 511), (4, cI 1 10)], [], [((70, 1), 1, 9)], [], [.inl 0, .inr (.inl 4, true), .inl 0])])]) (spl := []) (K := [0, 1, 2]) (N := 36) (sums := [S58, S548]) aiX0_joinable (abX0_joinable w0) (by decide) (List.forall_mem_cons.mpr ⟨sum_up q58 1, List.forall_mem_cons.mpr ⟨sum_up q548 0, fun _ h => absurd h List.not_mem_nil⟩⟩) (by decide +kernel)
noncomputable def S558 : Sum1 := (146, [cR 0, cI (-2147483648) 2147483647, cI (-2147483648) 2147483647], [], [], [(70, 1, 1), (71, 1, 9)], [([cR 0, cI 1 9, cI 1 9], [((15, 0), 1, 8), ((70, 1), 1, 9)], [], some (.inl (cI 1 1))), ([cR 0, cI 1 9, cI 1 9], [((15, 0), 1, 8), ((70, 1), 1, 9)], [], some (.inl (cI 0 0))), ([cR 0, cI (-2147483648) 2147483647, cI (-2147483648) 2147483647], [], [], some (.inl (cI (-2) (-2))))])
theorem q558 : sum_g w0 (pm_Rt pm_P 4) S558 := meth_okB (d := 3) (cuts := []) (spl := []) (K := [0, 1, 2]) (N := 23) (sums := [S539, S557, S538]) aiX8_may (abX8_may w0) (by decide) (List.forall_mem_cons.mpr ⟨sum_up q539 0, List.forall_mem_cons.mpr ⟨sum_up q557 0, List.forall_mem_cons.mpr ⟨sum_up q538 1, fun _ h => absurd h List.not_mem_nil⟩⟩⟩) (by decide +kernel)
noncomputable def S559 : Sum1 := (375, [cR 77, cI 1 9, cI 1 9, cI 1 9], [], [], [], [([cR 77, cI 1 9, cI 1 9, cI 1 9], [], [], some (.inl (cI 0 0))), ([cR 77, cI 1 9, cI 1 9, cI 1 9], [], [], some (.inl (cI 0 9)))])
theorem q559 : sum_g w0 (pm_Rt pm_P 1) S559 := meth_okB (d := 0) (cuts := []) (spl := []) (K := [0, 1, 2, 3]) (N := 24) (sums := []) aiX9_withJoin (abX9_withJoin w0) (by decide) (fun _ h => absurd h List.not_mem_nil) (by decide +kernel)
noncomputable def S560 : Sum1 := (375, [cR 77, cI 2 9, cI 1 9, cI 1 9], [], [], [], [([cR 77, cI 2 9, cI 1 9, cI 1 9], [], [], some (.inl (cI 0 0))), ([cR 77, cI 2 9, cI 1 9, cI 1 9], [], [], some (.inl (cI 0 9)))])
theorem q560 : sum_g w0 (pm_Rt pm_P 1) S560 := meth_okB (d := 0) (cuts := []) (spl := []) (K := [0, 1, 2, 3]) (N := 24) (sums := []) aiX9_withJoin (abX9_withJoin w0) (by decide) (fun _ h => absurd h List.not_mem_nil) (by decide +kernel)
noncomputable def S561 : Sum1 := (375, [cR 77, cI 3 9, cI 1 9, cI 1 9], [], [], [], [([cR 77, cI 3 9, cI 1 9, cI 1 9], [], [], some (.inl (cI 0 0))), ([cR 77, cI 3 9, cI 1 9, cI 1 9], [], [], some (.inl (cI 0 9)))])
theorem q561 : sum_g w0 (pm_Rt pm_P 1) S561 := meth_okB (d := 0) (cuts := []) (spl := []) (K := [0, 1, 2, 3]) (N := 24) (sums := []) aiX9_withJoin (abX9_withJoin w0) (by decide) (fun _ h => absurd h List.not_mem_nil) (by decide +kernel)
noncomputable def S562 : Sum1 := (375, [cR 77, cI 4 9, cI 1 9, cI 1 9], [], [], [], [([cR 77, cI 4 9, cI 1 9, cI 1 9], [], [], some (.inl (cI 0 0))), ([cR 77, cI 4 9, cI 1 9, cI 1 9], [], [], some (.inl (cI 0 9)))])
theorem q562 : sum_g w0 (pm_Rt pm_P 1) S562 := meth_okB (d := 0) (cuts := []) (spl := []) (K := [0, 1, 2, 3]) (N := 24) (sums := []) aiX9_withJoin (abX9_withJoin w0) (by decide) (fun _ h => absurd h List.not_mem_nil) (by decide +kernel)
noncomputable def S563 : Sum1 := (309, [cR 77, cI 1 9, cI 1 9, cI 1 9], [], [], [], [([cR 77, cI 1 9, cI 1 9, cI 1 9], [], [], some (.inl (cI 0 0))), ([cR 77, cI 1 9, cI 1 9, cI 1 9], [], [], some (.inl (cI 1 1)))])
theorem q563 : sum_g w0 (pm_Rt pm_P 2) S563 := meth_okB (d := 1) (cuts := [(20, [([(0, cR 77), (1, cI 1 9), (2, cI 1 9), (3, cI 1 9), (4, cI 1 10)], [], [], [], [.inl 0, .inr (.inl 4, true), .inl 1])]), (32, [([(0, cR 77), (1, cI 1 9), (2, cI 1 9), (3, cI 1 9), (4, cI 1 9), (5, cI 2 10)], [], [], [], [.inl 0, .inr (.inl 4, true), .inl 0, .inr (.inl 5, true), .inl 1])]), (44, [([(0, cR 77), (1, cI 1 9), (2, cI 1 9), (3, cI 2 9), (4, cI 1 9), (5, cI 2 9), (6, cI 3 10)], [], [], [], [.inl 0, .inr (.inl 4, true), .inl 0, .inr (.inl 5, true), .inl 0, .inr (.inl 6, true), .inl 1])]), (56, [([(0, cR 77), (1, cI 1 9), (2, cI 1 9), (3, cI 3 9), (4, cI 1 9), (5, cI 2 9), (6, cI 3 9), (7, cI 4 10)], [], [], [], [.inl 0, .inr (.inl 4, true), .inl 0, .inr (.inl 5, true), .inl 0, .inr (.inl 6, true), .inl 0, .inr (.inl 7, true), .inl 0])])]) (spl := []) (K := [0, 1, 2, 3]) (N := 35) (sums := [S562, S561, S560, S559]) aiX9_mayJoin (abX9_mayJoin w0) (by decide) (List.forall_mem_cons.mpr ⟨sum_up q562 0, List.forall_mem_cons.mpr ⟨sum_up q561 0, List.forall_mem_cons.mpr ⟨sum_up q560 0, List.forall_mem_cons.mpr ⟨sum_up q559 0, fun _ h => absurd h List.not_mem_nil⟩⟩⟩⟩) (by decide +kernel)
noncomputable def S564 : Sum1 := (308, [cR 77, cI (-2147483648) 2147483647, cI (-2147483648) 2147483647], [], [], [(77, 0, 0), (101, 0, 9)], [([cR 77, cI 1 9, cI 1 9], [((83, 0), 1, 2147483647)], [], some (.inl (cI 1 1))), ([cR 77, cI 1 9, cI 1 9], [((83, 0), 1, 2147483647)], [], some (.inl (cI 0 0))), ([cR 77, cI (-2147483648) 2147483647, cI (-2147483648) 2147483647], [], [], some (.inl (cI (-2) (-2))))])
theorem q564 : sum_g w0 (pm_Rt pm_P 4) S564 := meth_okB (d := 3) (cuts := []) (spl := []) (K := [0, 1, 2]) (N := 31) (sums := [S140, S535, S563, S542]) aiX9_may (abX9_may w0) (by decide) (List.forall_mem_cons.mpr ⟨sum_up q140 2, List.forall_mem_cons.mpr ⟨sum_up q535 0, List.forall_mem_cons.mpr ⟨sum_up q563 1, List.forall_mem_cons.mpr ⟨sum_up q542 1, fun _ h => absurd h List.not_mem_nil⟩⟩⟩⟩) (by decide +kernel)
noncomputable def S565 : Sum1 := (17, [cR 70, cI 1 9, cI 1 9], [], [], [], [([cR 70, cI 1 9, cI 1 9], [], [], some (.inl (cI 0 9)))])
theorem q565 : sum_g w0 (pm_Rt pm_P 1) S565 := meth_okB (d := 0) (cuts := [(8, [([(0, cR 70), (1, cI 1 9), (2, cI 1 9), (3, cI 0 9), (4, cI 0 511), (5, cI 1 10)], [], [], [], [.inl 0, .inr (.inl 5, true), .inl 0])])]) (spl := []) (K := [0, 1, 2]) (N := 33) (sums := []) aiX0_labelOf (abX0_labelOf w0) (by decide) (fun _ h => absurd h List.not_mem_nil) (by decide +kernel)
noncomputable def S566 : Sum1 := (134, [cR 0, cI (-2147483648) 2147483647, cI (-2147483648) 2147483647], [], [], [(70, 1, 1), (71, 1, 9)], [([cR 0, cI (-2147483648) 2147483647, cI (-2147483648) 2147483647], [], [], some (.inl (cI (-2) 9)))])
theorem q566 : sum_g w0 (pm_Rt pm_P 4) S566 := meth_okB (d := 3) (cuts := []) (spl := []) (K := [0, 1, 2]) (N := 27) (sums := [S539, S557, S565, S538]) aiX8_labels (abX8_labels w0) (by decide) (List.forall_mem_cons.mpr ⟨sum_up q539 0, List.forall_mem_cons.mpr ⟨sum_up q557 0, List.forall_mem_cons.mpr ⟨sum_up q565 2, List.forall_mem_cons.mpr ⟨sum_up q538 1, fun _ h => absurd h List.not_mem_nil⟩⟩⟩⟩) (by decide +kernel)
noncomputable def S567 : Sum1 := (288, [cR 77, cI 1 9, cI 1 9], [], [], [], [([cR 77, cI 1 9, cI 1 9], [], [], some (.inl (cI 0 9)))])
theorem q567 : sum_g w0 (pm_Rt pm_P 2) S567 := meth_okB (d := 1) (cuts := [(39, [([(0, cR 77), (1, cI 1 9), (2, cI 1 9), (3, cI 0 9), (4, cI 0 9), (5, cI 0 9), (6, cI 0 9)], [], [], [], [.inl 0, .inr (.inl 6, true), .inl 0])])]) (spl := []) (K := [0, 1, 2]) (N := 25) (sums := [S522, S523]) aiX9_labelOf (abX9_labelOf w0) (by decide) (List.forall_mem_cons.mpr ⟨sum_up q522 0, List.forall_mem_cons.mpr ⟨sum_up q523 0, fun _ h => absurd h List.not_mem_nil⟩⟩) (by decide +kernel)
noncomputable def S568 : Sum1 := (289, [cR 77, cI (-2147483648) 2147483647, cI (-2147483648) 2147483647], [], [], [(77, 0, 0), (101, 0, 9)], [([cR 77, cI (-2147483648) 2147483647, cI (-2147483648) 2147483647], [], [], some (.inl (cI (-2) 9)))])
theorem q568 : sum_g w0 (pm_Rt pm_P 4) S568 := meth_okB (d := 3) (cuts := []) (spl := []) (K := [0, 1, 2]) (N := 34) (sums := [S140, S535, S567, S563, S542]) aiX9_labels (abX9_labels w0) (by decide) (List.forall_mem_cons.mpr ⟨sum_up q140 2, List.forall_mem_cons.mpr ⟨sum_up q535 0, List.forall_mem_cons.mpr ⟨sum_up q567 1, List.forall_mem_cons.mpr ⟨sum_up q563 1, List.forall_mem_cons.mpr ⟨sum_up q542 1, fun _ h => absurd h List.not_mem_nil⟩⟩⟩⟩⟩) (by decide +kernel)
noncomputable def S569 : Sum1 := (18, [cR 70, cI 2 9], [], [], [(70, 1, 1), (71, 1, 9)], [([cR 70, cI 2 9], [((70, 1), 2, 9)], [], none)])
theorem q569 : sum_g w0 (pm_Rt pm_P 2) S569 := meth_okB (d := 1) (cuts := [(7, [([(0, cR 70), (1, cI 2 9), (2, cI 1 10)], [], [((70, 1), 2, 9)], [], [.inl 0, .inr (.inl 2, true), .inl 0])])]) (spl := []) (K := [0, 1]) (N := 13) (sums := [S58]) aiX0_start (abX0_start w0) (by decide) (List.forall_mem_cons.mpr ⟨sum_up q58 0, fun _ h => absurd h List.not_mem_nil⟩) (by decide +kernel)
noncomputable def S570 : Sum1 := (23, [cI 0 511, cI 0 9], [], [], [], [([cI 0 511, cI 0 9], [], [], some (.inl (cI 1 1))), ([cI 0 511, cI 0 9], [], [], some (.inl (cI 0 0)))])
theorem q570 : sum_g w0 (pm_Rt pm_P 1) S570 := meth_okB (d := 0) (cuts := []) (spl := []) (K := [0, 1]) (N := 12) (sums := []) aiX1_isFree (abX1_isFree w0) (by decide) (fun _ h => absurd h List.not_mem_nil) (by decide +kernel)
noncomputable def S571 : Sum1 := (21, [cI 1 8, cI 0 511, cI 1 10], [], [], [], [([cI 1 8, cI 0 511, cI 1 10], [], [], some (.inl (cI 1 8))), ([cI 1 8, cI 0 511, cI 1 10], [], [], some (.inl (cI 0 0)))])
theorem q571 : sum_g w0 (pm_Rt pm_P 2) S571 := meth_okB (d := 1) (cuts := [(2, [([(0, cI 1 8), (1, cI 0 511), (2, cI 1 10), (3, cI 1 10)], [], [], [], [.inl 0, .inr (.inl 3, true), .inl 0])])]) (spl := []) (K := [0, 1, 2]) (N := 10) (sums := [S125]) aiX1_firstFree (abX1_firstFree w0) (by decide) (List.forall_mem_cons.mpr ⟨sum_up q125 0, fun _ h => absurd h List.not_mem_nil⟩) (by decide +kernel)
noncomputable def S572 : Sum1 := (25, [cI 0 0, cI 1 8, cI 0 511, cI 0 9], [], [], [], [([cI 0 0, cI 1 8, cI 0 511, cI 0 9], [], [], some (.inl (cI 0 0))), ([cI 0 0, cI 1 8, cI 0 511, cI 0 9], [], [], some (.inl (cI 0 9)))])
theorem q572 : sum_g w0 (pm_Rt pm_P 3) S572 := meth_okB (d := 2) (cuts := []) (spl := []) (K := [0, 1, 2, 3]) (N := 25) (sums := [S570, S571]) aiX1_spotFor (abX1_spotFor w0) (by decide) (List.forall_mem_cons.mpr ⟨sum_up q570 1, List.forall_mem_cons.mpr ⟨sum_up q571 0, fun _ h => absurd h List.not_mem_nil⟩⟩) (by decide +kernel)
noncomputable def S573 : Sum1 := (19, [cR 62, cI 0 7, cI 0 9, cI 0 9], [], [], [(62, 1, 3), (63, 0, 7)], [([cR 62, cI 0 7, cI 0 9, cI 0 9], [], [], none)])
theorem q573 : sum_g w0 (pm_Rt pm_P 2) S573 := meth_okB (d := 1) (cuts := []) (spl := []) (K := [0, 1, 2, 3]) (N := 25) (sums := [S58, S152]) aiX1_come (abX1_come w0) (by decide) (List.forall_mem_cons.mpr ⟨sum_up q58 0, List.forall_mem_cons.mpr ⟨sum_up q152 0, fun _ h => absurd h List.not_mem_nil⟩⟩) (by decide +kernel)
noncomputable def S574 : Sum1 := (19, [cR 62, cI 0 7, cI 0 9, cI 0 0], [], [], [(62, 2, 2), (63, 0, 7)], [([cR 62, cI 0 7, cI 0 9, cI 0 0], [((62, 2), 1, 255)], [], none)])
theorem q574 : sum_g w0 (pm_Rt pm_P 1) S574 := meth_okB (d := 0) (cuts := []) (spl := []) (K := [0, 1, 2, 3]) (N := 18) (sums := []) aiX1_come (abX1_come w0) (by decide) (fun _ h => absurd h List.not_mem_nil) (by decide +kernel)
noncomputable def S575 : Sum1 := (20, [cR 62, cR 75, cI 1 8, cI 1 255, cI 1 8, cI 0 0], [], [], [(62, 1, 3), (63, 0, 7)], [([cR 62, cR 75, cI 1 8, cI 1 255, cI 1 8, cI 0 0], [], [], none)])
theorem q575 : sum_g w0 (pm_Rt pm_P 4) S575 := meth_okB (d := 3) (cuts := [(18, [([(0, cR 62), (1, cR 75), (2, cI 1 8), (3, cI 1 255), (4, cI 1 8), (5, cI 0 0), (6, cI 0 8)], [], [], [], [.inl 0, .inr (.inl 6, true), .inl 0])])]) (spl := []) (K := [0, 1, 2, 3, 4, 5]) (N := 31) (sums := [S574, S573, S572]) aiX1_fill (abX1_fill w0) (by decide) (List.forall_mem_cons.mpr ⟨sum_up q574 2, List.forall_mem_cons.mpr ⟨sum_up q573 1, List.forall_mem_cons.mpr ⟨sum_up q572 0, fun _ h => absurd h List.not_mem_nil⟩⟩⟩) (by decide +kernel)
noncomputable def S576 : Sum1 := (90, [cR 0], [], [], [(62, 1, 3), (63, 0, 7), (70, 1, 1), (71, 1, 9), (75, 0, 7)], [([cR 0], [((15, 0), 0, 0)], [], some (.inl (cI (-2) (-2)))), ([cR 0], [((15, 0), 1, 8)], [], some (.inl (cI 0 0))), ([cR 0], [((15, 0), 1, 8), ((15, 5), 1, 8), ((62, 2), 0, 0), ((70, 1), 2, 9)], [], some (.inl (cI 1 1)))])
theorem q576 : sum_g w0 (pm_Rt pm_P 5) S576 := meth_okB (d := 4) (cuts := [(47, [([(0, cR 0), (1, cI 0 8)], [], [((15, 0), 1, 8), ((15, 5), 1, 8), ((70, 1), 2, 9)], [], [.inl 0, .inr (.inl 1, true), .inl 0])])]) (spl := []) (K := [0]) (N := 38) (sums := [S158, S569, S519, S517, S575]) aiX8_chain (abX8_chain w0) (by decide) (List.forall_mem_cons.mpr ⟨sum_up q158 3, List.forall_mem_cons.mpr ⟨sum_up q569 2, List.forall_mem_cons.mpr ⟨sum_up q519 3, List.forall_mem_cons.mpr ⟨sum_up q517 2, List.forall_mem_cons.mpr ⟨sum_up q575 0, fun _ h => absurd h List.not_mem_nil⟩⟩⟩⟩⟩) (by decide +kernel)
noncomputable def S577 : Sum1 := (225, [cR 77], [], [], [(77, 0, 0), (101, 0, 9)], [([cR 77], [((83, 0), (-2147483648), 0)], [], some (.inl (cI (-2) (-2)))), ([cR 77], [((83, 0), 1, 2147483647)], [], some (.inl (cI 0 0))), ([cR 77], [((83, 0), 1, 2147483647)], [], some (.inl (cI 1 1)))])
theorem q577 : sum_g w0 (pm_Rt pm_P 5) S577 := meth_okB (d := 4) (cuts := [(38, [([(0, cR 77), (1, cI 1 9)], [], [((77, 0), 0, 0), ((83, 0), 1, 2147483647)], [], [.inl 0, .inr (.inl 1, true), .inl 1])]), (50, [([(0, cR 77), (1, cI 1 8), (2, cI (-2147483648) 2147483647), (3, cI 0 8)], [], [((77, 0), 0, 0), ((83, 0), 1, 2147483647), ((84, 0), 1, 8)], [], [.inl 0, .inr (.inl 1, true), .inl 0, .inr (.inl 3, true), .inl 0])])]) (spl := []) (K := [0]) (N := 20) (sums := [S160, S536, S140, S527, S535]) aiX9_chain (abX9_chain w0) (by decide) (List.forall_mem_cons.mpr ⟨sum_up q160 3, List.forall_mem_cons.mpr ⟨sum_up q536 2, List.forall_mem_cons.mpr ⟨sum_up q140 3, List.forall_mem_cons.mpr ⟨sum_up q527 0, List.forall_mem_cons.mpr ⟨sum_up q535 1, fun _ h => absurd h List.not_mem_nil⟩⟩⟩⟩⟩) (by decide +kernel)
noncomputable def S578 : Sum1 := (95, [cR 0, cI 0 6, cI 1 7], [], [], [], [([cR 0, cI 0 6, cI 1 7], [], [], some (.inl (cI 1 1))), ([cR 0, cI 0 6, cI 1 7], [], [], some (.inl (cI 0 0)))])
theorem q578 : sum_g w0 (pm_Rt pm_P 1) S578 := meth_okB (d := 0) (cuts := []) (spl := []) (K := [0, 1, 2]) (N := 15) (sums := []) aiX8_crossesFirst (abX8_crossesFirst w0) (by decide) (fun _ h => absurd h List.not_mem_nil) (by decide +kernel)
noncomputable def S579 : Sum1 := (96, [cR 0, cI 0 6, cI 1 7], [], [], [], [([cR 0, cI 0 6, cI 1 7], [], [], some (.inl (cI 1 1))), ([cR 0, cI 0 6, cI 1 7], [], [], some (.inl (cI 0 0)))])
theorem q579 : sum_g w0 (pm_Rt pm_P 1) S579 := meth_okB (d := 0) (cuts := []) (spl := []) (K := [0, 1, 2]) (N := 17) (sums := []) aiX8_crossesSecond (abX8_crossesSecond w0) (by decide) (fun _ h => absurd h List.not_mem_nil) (by decide +kernel)
noncomputable def S580 : Sum1 := (167, [cR 0, cI (-2147483648) 2147483647], [], [], [], [([cR 0, cI (-2147483648) 2147483647], [], [], some (.inl (cI (-2147483648) 2147483647)))])
theorem q580 : sum_g w0 (pm_Rt pm_P 2) S580 := meth_okB (d := 1) (cuts := [(15, [([(0, cR 0), (1, cI 0 7), (2, cI (-2147483648) 2147483647), (3, cI 0 8)], [], [((15, 4), 1, 8)], [], [.inl 0, .inr (.inl 3, true), .inl 0])])]) (spl := []) (K := [0, 1]) (N := 20) (sums := [S578, S579, S109]) aiX8_region (abX8_region w0) (by decide) (List.forall_mem_cons.mpr ⟨sum_up q578 0, List.forall_mem_cons.mpr ⟨sum_up q579 0, List.forall_mem_cons.mpr ⟨sum_up q109 0, fun _ h => absurd h List.not_mem_nil⟩⟩⟩) (by decide +kernel)
noncomputable def S581 : Sum1 := (301, [cI 0 7, cI 0 7], [], [], [], [([cI 0 7, cI 0 7], [], [], some (.inl (cI 0 7)))])
theorem q581 : sum_g w0 (pm_Rt pm_P 1) S581 := meth_okB (d := 0) (cuts := []) (spl := []) (K := [0, 1]) (N := 7) (sums := []) aiX9_lessOf (abX9_lessOf w0) (by decide) (fun _ h => absurd h List.not_mem_nil) (by decide +kernel)
noncomputable def S582 : Sum1 := (313, [cI 0 7, cI 0 7], [], [], [], [([cI 0 7, cI 0 7], [], [], some (.inl (cI 0 7)))])
theorem q582 : sum_g w0 (pm_Rt pm_P 1) S582 := meth_okB (d := 0) (cuts := []) (spl := []) (K := [0, 1]) (N := 7) (sums := []) aiX9_moreOf (abX9_moreOf w0) (by decide) (fun _ h => absurd h List.not_mem_nil) (by decide +kernel)
noncomputable def S583 : Sum1 := (351, [cR 77, cI 0 7], [], [], [], [([cR 77, cI 0 7], [], [], some (.inl (cI 0 99)))])
theorem q583 : sum_g w0 (pm_Rt pm_P 1) S583 := meth_okB (d := 0) (cuts := []) (spl := []) (K := [0, 1]) (N := 10) (sums := []) aiX9_stands (abX9_stands w0) (by decide) (fun _ h => absurd h List.not_mem_nil) (by decide +kernel)
noncomputable def S584 : Sum1 := (235, [cR 77, cI 0 7, cI 0 7], [], [], [], [([cR 77, cI 0 7, cI 0 7], [], [], some (.inl (cI (-1) 7)))])
theorem q584 : sum_g w0 (pm_Rt pm_P 2) S584 := meth_okB (d := 1) (cuts := []) (spl := []) (K := [0, 1, 2]) (N := 20) (sums := [S583]) aiX9_crossed (abX9_crossed w0) (by decide) (List.forall_mem_cons.mpr ⟨sum_up q583 0, fun _ h => absurd h List.not_mem_nil⟩) (by decide +kernel)
noncomputable def S585 : Sum1 := (332, [cR 77, cI (-2147483648) 2147483647], [], [], [(77, 0, 0)], [([cR 77, cI (-2147483648) 2147483647], [], [], some (.inl (cI (-2147483648) 2147483647)))])
theorem q585 : sum_g w0 (pm_Rt pm_P 3) S585 := meth_okB (d := 2) (cuts := [(21, [([(0, cR 77), (1, cI 0 7), (2, cI (-2147483648) 2147483647), (3, cI 0 8)], [], [((77, 0), 0, 0)], [], [.inl 0, .inr (.inl 3, true), .inl 0])])]) (spl := []) (K := [0, 1]) (N := 25) (sums := [S112, S581, S582, S584, S114]) aiX9_region (abX9_region w0) (by decide) (List.forall_mem_cons.mpr ⟨sum_up q112 1, List.forall_mem_cons.mpr ⟨sum_up q581 1, List.forall_mem_cons.mpr ⟨sum_up q582 1, List.forall_mem_cons.mpr ⟨sum_up q584 0, List.forall_mem_cons.mpr ⟨sum_up q114 0, fun _ h => absurd h List.not_mem_nil⟩⟩⟩⟩⟩) (by decide +kernel)
noncomputable def S586 : Sum1 := (114, [cR 0, cI (-2147483648) 2147483647], [((15, 4), 1, 8)], [], [], [([cR 0, cI 0 7], [], [], some (.inl (cI 1 1))), ([cR 0, cI (-2147483648) 2147483647], [], [], some (.inl (cI 0 0)))])
theorem q586 : sum_g w0 (pm_Rt pm_P 1) S586 := meth_okB (d := 0) (cuts := []) (spl := []) (K := [0, 1]) (N := 11) (sums := []) aiX8_hasCar (abX8_hasCar w0) (by decide) (fun _ h => absurd h List.not_mem_nil) (by decide +kernel)
end
section
/-! what is known of the methods, checked (written by emit.py) -/
noncomputable def S587 : Sum1 := (116, [cR 0, cI (-2147483648) 2147483647, cI (-2147483648) 2147483647], [], [], [], [([cR 0, cI (-2147483648) 2147483647, cI (-2147483648) 2147483647], [], [], some (.inl (cI 0 0))), ([cR 0, cI 0 7, cI 0 7], [((15, 4), 1, 8)], [], some (.inl (cI 1 1)))])
theorem q587 : sum_g w0 (pm_Rt pm_P 2) S587 := meth_okB (d := 1) (cuts := []) (spl := []) (K := [0, 1, 2]) (N := 15) (sums := [S586, S109]) aiX8_hasPair (abX8_hasPair w0) (by decide) (List.forall_mem_cons.mpr ⟨sum_up q586 0, List.forall_mem_cons.mpr ⟨sum_up q109 0, fun _ h => absurd h List.not_mem_nil⟩⟩) (by decide +kernel)
noncomputable def S588 : Sum1 := (11, [cI 0 7, cI 0 7], [], [], [], [([cI 0 7, cI 0 7], [], [], some (.inl (cI 0 7)))])
theorem q588 : sum_g w0 (pm_Rt pm_P 1) S588 := meth_okB (d := 0) (cuts := []) (spl := []) (K := [0, 1]) (N := 7) (sums := []) aiJ9_min_7cf53 (abJ9_min_7cf53 w0) (by decide) (fun _ h => absurd h List.not_mem_nil) (by decide +kernel)
noncomputable def S589 : Sum1 := (10, [cI 0 7, cI 0 7], [], [], [], [([cI 0 7, cI 0 7], [], [], some (.inl (cI 0 7)))])
theorem q589 : sum_g w0 (pm_Rt pm_P 1) S589 := meth_okB (d := 0) (cuts := []) (spl := []) (K := [0, 1]) (N := 7) (sums := []) aiJ9_max_7cf53 (abJ9_max_7cf53 w0) (by decide) (fun _ h => absurd h List.not_mem_nil) (by decide +kernel)
noncomputable def S590 : Sum1 := (95, [cR 0, cI 0 7, cI 0 7], [], [], [], [([cR 0, cI 0 7, cI 0 7], [], [], some (.inl (cI 1 1))), ([cR 0, cI 0 7, cI 0 7], [], [], some (.inl (cI 0 0)))])
theorem q590 : sum_g w0 (pm_Rt pm_P 1) S590 := meth_okB (d := 0) (cuts := []) (spl := []) (K := [0, 1, 2]) (N := 15) (sums := []) aiX8_crossesFirst (abX8_crossesFirst w0) (by decide) (fun _ h => absurd h List.not_mem_nil) (by decide +kernel)
noncomputable def S591 : Sum1 := (96, [cR 0, cI 0 7, cI 0 7], [], [], [], [([cR 0, cI 0 7, cI 0 7], [], [], some (.inl (cI 1 1))), ([cR 0, cI 0 7, cI 0 7], [], [], some (.inl (cI 0 0)))])
theorem q591 : sum_g w0 (pm_Rt pm_P 1) S591 := meth_okB (d := 0) (cuts := []) (spl := []) (K := [0, 1, 2]) (N := 17) (sums := []) aiX8_crossesSecond (abX8_crossesSecond w0) (by decide) (fun _ h => absurd h List.not_mem_nil) (by decide +kernel)
noncomputable def S592 : Sum1 := (94, [cR 0, cI 0 7, cI 0 7], [], [], [], [([cR 0, cI 0 7, cI 0 7], [], [], some (.inl (cI 0 0))), ([cR 0, cI 0 7, cI 0 7], [], [], some (.inl (cI 1 1)))])
theorem q592 : sum_g w0 (pm_Rt pm_P 2) S592 := meth_okB (d := 1) (cuts := []) (spl := []) (K := [0, 1, 2]) (N := 14) (sums := [S590, S591]) aiX8_crossed (abX8_crossed w0) (by decide) (List.forall_mem_cons.mpr ⟨sum_up q590 0, List.forall_mem_cons.mpr ⟨sum_up q591 0, fun _ h => absurd h List.not_mem_nil⟩⟩) (by decide +kernel)
noncomputable def S593 : Sum1 := (77, [cR 0, cI (-2147483648) 2147483647, cI (-2147483648) 2147483647], [], [], [], [([cR 0, cI 0 7, cI 0 7], [((15, 4), 1, 8)], [], some (.inl (cI 1 1))), ([cR 0, cI 0 7, cI 0 7], [((15, 4), 1, 8)], [], some (.inl (cI 0 0))), ([cR 0, cI (-2147483648) 2147483647, cI (-2147483648) 2147483647], [], [], some (.inl (cI (-2) (-2))))])
theorem q593 : sum_g w0 (pm_Rt pm_P 3) S593 := meth_okB (d := 2) (cuts := []) (spl := []) (K := [0, 1, 2]) (N := 15) (sums := [S588, S589, S592, S587]) aiX8_across (abX8_across w0) (by decide) (List.forall_mem_cons.mpr ⟨sum_up q588 1, List.forall_mem_cons.mpr ⟨sum_up q589 1, List.forall_mem_cons.mpr ⟨sum_up q592 0, List.forall_mem_cons.mpr ⟨sum_up q587 0, fun _ h => absurd h List.not_mem_nil⟩⟩⟩⟩) (by decide +kernel)
noncomputable def S594 : Sum1 := (208, [cR 77, cI (-2147483648) 2147483647, cI (-2147483648) 2147483647], [], [], [], [([cR 77, cI (-2147483648) 2147483647, cI (-2147483648) 2147483647], [], [], some (.inl (cI 0 0))), ([cR 77, cI 0 7, cI 0 7], [], [], some (.inl (cI 1 1)))])
theorem q594 : sum_g w0 (pm_Rt pm_P 3) S594 := meth_okB (d := 2) (cuts := []) (spl := []) (K := [0, 1, 2]) (N := 17) (sums := [S114]) aiX9_areTwo (abX9_areTwo w0) (by decide) (List.forall_mem_cons.mpr ⟨sum_up q114 0, fun _ h => absurd h List.not_mem_nil⟩) (by decide +kernel)
noncomputable def S595 : Sum1 := (206, [cR 77, cI (-2147483648) 2147483647, cI (-2147483648) 2147483647], [], [], [(77, 0, 0)], [([cR 77, cI 0 7, cI 0 7], [], [], some (.inl (cI 0 0))), ([cR 77, cI 0 7, cI 0 7], [], [], some (.inl (cI 1 1))), ([cR 77, cI (-2147483648) 2147483647, cI (-2147483648) 2147483647], [], [], some (.inl (cI (-2) (-2))))])
theorem q595 : sum_g w0 (pm_Rt pm_P 4) S595 := meth_okB (d := 3) (cuts := []) (spl := []) (K := [0, 1, 2]) (N := 22) (sums := [S581, S582, S584, S594]) aiX9_across (abX9_across w0) (by decide) (List.forall_mem_cons.mpr ⟨sum_up q581 2, List.forall_mem_cons.mpr ⟨sum_up q582 2, List.forall_mem_cons.mpr ⟨sum_up q584 1, List.forall_mem_cons.mpr ⟨sum_up q594 0, fun _ h => absurd h List.not_mem_nil⟩⟩⟩⟩) (by decide +kernel)
noncomputable def S596 : Sum1 := (95, [cR 0, cI 0 7, cI 1 7], [], [], [], [([cR 0, cI 0 7, cI 1 7], [], [], some (.inl (cI 1 1))), ([cR 0, cI 0 7, cI 1 7], [], [], some (.inl (cI 0 0)))])
theorem q596 : sum_g w0 (pm_Rt pm_P 1) S596 := meth_okB (d := 0) (cuts := []) (spl := []) (K := [0, 1, 2]) (N := 15) (sums := []) aiX8_crossesFirst (abX8_crossesFirst w0) (by decide) (fun _ h => absurd h List.not_mem_nil) (by decide +kernel)
noncomputable def S597 : Sum1 := (96, [cR 0, cI 0 7, cI 1 7], [], [], [], [([cR 0, cI 0 7, cI 1 7], [], [], some (.inl (cI 1 1))), ([cR 0, cI 0 7, cI 1 7], [], [], some (.inl (cI 0 0)))])
theorem q597 : sum_g w0 (pm_Rt pm_P 1) S597 := meth_okB (d := 0) (cuts := []) (spl := []) (K := [0, 1, 2]) (N := 17) (sums := []) aiX8_crossesSecond (abX8_crossesSecond w0) (by decide) (fun _ h => absurd h List.not_mem_nil) (by decide +kernel)
noncomputable def S598 : Sum1 := (94, [cR 0, cI 0 7, cI 1 7], [], [], [], [([cR 0, cI 0 7, cI 1 7], [], [], some (.inl (cI 0 0))), ([cR 0, cI 0 7, cI 1 7], [], [], some (.inl (cI 1 1)))])
theorem q598 : sum_g w0 (pm_Rt pm_P 2) S598 := meth_okB (d := 1) (cuts := []) (spl := []) (K := [0, 1, 2]) (N := 14) (sums := [S596, S597]) aiX8_crossed (abX8_crossed w0) (by decide) (List.forall_mem_cons.mpr ⟨sum_up q596 0, List.forall_mem_cons.mpr ⟨sum_up q597 0, fun _ h => absurd h List.not_mem_nil⟩⟩) (by decide +kernel)
noncomputable def S599 : Sum1 := (107, [cR 0], [], [], [], [([cR 0], [], [], some (.inl (cI (-2147483648) 2147483647)))])
theorem q599 : sum_g w0 (pm_Rt pm_P 3) S599 := meth_okB (d := 2) (cuts := [(14, [([(0, cR 0), (1, cI (-2147483648) 2147483647), (2, cI 0 8)], [], [((15, 0), 1, 8)], [], [.inl 0, .inr (.inl 2, true), .inl 1])]), (29, [([(0, cR 0), (1, cI (-2147483648) 2147483647), (2, cI 0 7), (3, cI 1 8)], [], [((15, 0), 1, 8), ((15, 4), 1, 8)], [], [.inl 0, .inr (.inl 2, true), .inl 0, .inr (.inl 3, true), .inl 0])])]) (spl := []) (K := [0]) (N := 15) (sums := [S158, S598]) aiX8_fences (abX8_fences w0) (by decide) (List.forall_mem_cons.mpr ⟨sum_up q158 1, List.forall_mem_cons.mpr ⟨sum_up q598 0, fun _ h => absurd h List.not_mem_nil⟩⟩) (by decide +kernel)
noncomputable def S600 : Sum1 := (351, [cR 77, cI 1 7], [], [], [], [([cR 77, cI 1 7], [], [], some (.inl (cI 0 99)))])
theorem q600 : sum_g w0 (pm_Rt pm_P 1) S600 := meth_okB (d := 0) (cuts := []) (spl := []) (K := [0, 1]) (N := 10) (sums := []) aiX9_stands (abX9_stands w0) (by decide) (fun _ h => absurd h List.not_mem_nil) (by decide +kernel)
noncomputable def S601 : Sum1 := (235, [cR 77, cI 0 7, cI 1 7], [], [], [], [([cR 77, cI 0 7, cI 1 7], [], [], some (.inl (cI (-1) 7)))])
theorem q601 : sum_g w0 (pm_Rt pm_P 2) S601 := meth_okB (d := 1) (cuts := []) (spl := []) (K := [0, 1, 2]) (N := 20) (sums := [S600, S583]) aiX9_crossed (abX9_crossed w0) (by decide) (List.forall_mem_cons.mpr ⟨sum_up q600 0, List.forall_mem_cons.mpr ⟨sum_up q583 0, fun _ h => absurd h List.not_mem_nil⟩⟩) (by decide +kernel)
noncomputable def S602 : Sum1 := (248, [cR 77], [], [], [(77, 0, 0)], [([cR 77], [], [], some (.inl (cI (-2147483648) 2147483647)))])
theorem q602 : sum_g w0 (pm_Rt pm_P 3) S602 := meth_okB (d := 2) (cuts := [(19, [([(0, cR 77), (1, cI (-2147483648) 2147483647), (2, cI 0 8)], [], [((77, 0), 0, 0), ((83, 0), 1, 2147483647)], [], [.inl 0, .inr (.inl 2, true), .inl 1])]), (31, [([(0, cR 77), (1, cI (-2147483648) 2147483647), (2, cI 0 7), (3, cI 1 8)], [], [((77, 0), 0, 0), ((83, 0), 1, 2147483647), ((84, 3), 1, 8)], [], [.inl 0, .inr (.inl 2, true), .inl 0, .inr (.inl 3, true), .inl 0])])]) (spl := []) (K := [0]) (N := 18) (sums := [S160, S112, S601]) aiX9_fences (abX9_fences w0) (by decide) (List.forall_mem_cons.mpr ⟨sum_up q160 1, List.forall_mem_cons.mpr ⟨sum_up q112 1, List.forall_mem_cons.mpr ⟨sum_up q601 0, fun _ h => absurd h List.not_mem_nil⟩⟩⟩) (by decide +kernel)
noncomputable def S603 : Sum1 := (104, [cR 0], [], [], [], [([cR 0], [], [], some (.inl (cI (-2) 7)))])
theorem q603 : sum_g w0 (pm_Rt pm_P 2) S603 := meth_okB (d := 1) (cuts := [(16, [([(0, cR 0), (1, cI (-1) 7), (2, cI (-1) 99), (3, cI 0 8)], [], [((15, 0), 1, 8)], [], [.inl 0, .inr (.inl 3, true), .inl 0])])]) (spl := []) (K := [0]) (N := 23) (sums := [S158]) aiX8_far (abX8_far w0) (by decide) (List.forall_mem_cons.mpr ⟨sum_up q158 0, fun _ h => absurd h List.not_mem_nil⟩) (by decide +kernel)
noncomputable def S604 : Sum1 := (244, [cR 77], [], [], [(77, 0, 0)], [([cR 77], [], [], some (.inl (cI (-2) 7)))])
theorem q604 : sum_g w0 (pm_Rt pm_P 2) S604 := meth_okB (d := 1) (cuts := [(19, [([(0, cR 77), (1, cI (-1) 7), (2, cI 0 8)], [], [((77, 0), 0, 0), ((83, 0), 1, 2147483647)], [], [.inl 0, .inr (.inl 2, true), .inl 0])])]) (spl := []) (K := [0]) (N := 19) (sums := [S160, S112, S583]) aiX9_far (abX9_far w0) (by decide) (List.forall_mem_cons.mpr ⟨sum_up q160 0, List.forall_mem_cons.mpr ⟨sum_up q112 0, List.forall_mem_cons.mpr ⟨sum_up q583 0, fun _ h => absurd h List.not_mem_nil⟩⟩⟩) (by decide +kernel)
noncomputable def S605 : Sum1 := (81, [cR 0], [], [], [], [([cR 0], [], [], some (.inl (cI (-2147483648) 2147483647)))])
theorem q605 : sum_g w0 (pm_Rt pm_P 2) S605 := meth_okB (d := 1) (cuts := [(14, [([(0, cR 0), (1, cI (-2147483648) 2147483647), (2, cI 0 8)], [], [((15, 0), 1, 8)], [], [.inl 0, .inr (.inl 2, true), .inl 1])]), (29, [([(0, cR 0), (1, cI (-2147483648) 2147483647), (2, cI 0 7), (3, cI 1 8)], [], [((15, 0), 1, 8), ((15, 4), 1, 8)], [], [.inl 0, .inr (.inl 2, true), .inl 0, .inr (.inl 3, true), .inl 0])])]) (spl := []) (K := [0]) (N := 26) (sums := [S158]) aiX8_astride (abX8_astride w0) (by decide) (List.forall_mem_cons.mpr ⟨sum_up q158 0, fun _ h => absurd h List.not_mem_nil⟩) (by decide +kernel)
noncomputable def S606 : Sum1 := (211, [cR 77], [], [], [(77, 0, 0)], [([cR 77], [], [], some (.inl (cI (-2147483648) 2147483647)))])
theorem q606 : sum_g w0 (pm_Rt pm_P 2) S606 := meth_okB (d := 1) (cuts := [(19, [([(0, cR 77), (1, cI (-2147483648) 2147483647), (2, cI 0 8)], [], [((77, 0), 0, 0), ((83, 0), 1, 2147483647)], [], [.inl 0, .inr (.inl 2, true), .inl 1])]), (31, [([(0, cR 77), (1, cI (-2147483648) 2147483647), (2, cI 0 7), (3, cI 1 8)], [], [((77, 0), 0, 0), ((83, 0), 1, 2147483647), ((84, 3), 1, 8)], [], [.inl 0, .inr (.inl 2, true), .inl 0, .inr (.inl 3, true), .inl 0])])]) (spl := []) (K := [0]) (N := 28) (sums := [S160, S112, S600, S583]) aiX9_astride (abX9_astride w0) (by decide) (List.forall_mem_cons.mpr ⟨sum_up q160 0, List.forall_mem_cons.mpr ⟨sum_up q112 0, List.forall_mem_cons.mpr ⟨sum_up q600 0, List.forall_mem_cons.mpr ⟨sum_up q583 0, fun _ h => absurd h List.not_mem_nil⟩⟩⟩⟩) (by decide +kernel)
noncomputable def S607 : Sum1 := (7, [cI 0 255], [], [], [], [([cI 0 255], [], [], some (.inl (cI 2 8))), ([cI 0 255], [], [], some (.inl (cI 1 1))), ([cI 0 255], [], [], some (.inl (cI 0 0)))])
theorem q607 : sum_g w0 (pm_Rt pm_P 1) S607 := bc_sum (hi := 255) (k := 8) (by decide) (by decide +kernel)
noncomputable def S608 : Sum1 := (193, [cR 0], [], [], [(75, 0, 7)], [([cR 0], [], [], none)])
theorem q608 : sum_g w0 (pm_Rt pm_P 1) S608 := meth_okB (d := 0) (cuts := [(2, [([(0, cR 0), (1, cI 0 8)], [], [], [], [.inl 0, .inr (.inl 1, true), .inl 0])])]) (spl := []) (K := [0]) (N := 17) (sums := []) aiX8_tryWishes (abX8_tryWishes w0) (by decide) (fun _ h => absurd h List.not_mem_nil) (by decide +kernel)
noncomputable def S609 : Sum1 := (21, [cI 0 8, cI 0 511, cI 3 10], [], [], [], [([cI 3 8, cI 0 511, cI 3 10], [], [], some (.inl (cI 3 8))), ([cI 0 8, cI 0 511, cI 3 10], [], [], some (.inl (cI 0 0)))])
theorem q609 : sum_g w0 (pm_Rt pm_P 2) S609 := meth_okB (d := 1) (cuts := [(2, [([(0, cI 0 8), (1, cI 0 511), (2, cI 3 10), (3, cI 3 10)], [], [], [], [.inl 0, .inr (.inl 3, true), .inl 0])])]) (spl := []) (K := [0, 1, 2]) (N := 10) (sums := [S123]) aiX1_firstFree (abX1_firstFree w0) (by decide) (List.forall_mem_cons.mpr ⟨sum_up q123 0, fun _ h => absurd h List.not_mem_nil⟩) (by decide +kernel)
noncomputable def S610 : Sum1 := (24, [cI 0 8, cI 0 511, cI 0 9], [], [], [], [([cI 2 8, cI 0 511, cI 0 9], [], [], some (.inl (cI 1 8))), ([cI 0 8, cI 0 511, cI 0 9], [], [], some (.inl (cI 0 0)))])
theorem q610 : sum_g w0 (pm_Rt pm_P 2) S610 := meth_okB (d := 1) (cuts := [(2, [([(0, cI 0 8), (1, cI 0 511), (2, cI 0 9), (3, cI 1 8)], [], [], [], [.inl 0, .inr (.inl 3, true), .inl 0])])]) (spl := []) (K := [0, 1, 2]) (N := 30) (sums := [S127, S125]) aiX1_nearestFree (abX1_nearestFree w0) (by decide) (List.forall_mem_cons.mpr ⟨sum_up q127 0, List.forall_mem_cons.mpr ⟨sum_up q125 0, fun _ h => absurd h List.not_mem_nil⟩⟩) (by decide +kernel)
noncomputable def S611 : Sum1 := (21, [cI 0 8, cI 0 511, cI 1 10], [], [], [], [([cI 1 8, cI 0 511, cI 1 10], [], [], some (.inl (cI 1 8))), ([cI 0 8, cI 0 511, cI 1 10], [], [], some (.inl (cI 0 0)))])
theorem q611 : sum_g w0 (pm_Rt pm_P 2) S611 := meth_okB (d := 1) (cuts := [(2, [([(0, cI 0 8), (1, cI 0 511), (2, cI 1 10), (3, cI 1 10)], [], [], [], [.inl 0, .inr (.inl 3, true), .inl 0])])]) (spl := []) (K := [0, 1, 2]) (N := 10) (sums := [S125]) aiX1_firstFree (abX1_firstFree w0) (by decide) (List.forall_mem_cons.mpr ⟨sum_up q125 0, fun _ h => absurd h List.not_mem_nil⟩) (by decide +kernel)
noncomputable def S612 : Sum1 := (25, [cI 0 3, cI 0 8, cI 0 511, cI 0 9], [], [], [], [([cI 0 3, cI 0 8, cI 0 511, cI 0 9], [], [], some (.inl (cI 0 0))), ([cI 0 3, cI 0 8, cI 0 511, cI 0 9], [], [], some (.inl (cI 0 9)))])
theorem q612 : sum_g w0 (pm_Rt pm_P 3) S612 := meth_okB (d := 2) (cuts := []) (spl := []) (K := [0, 1, 2, 3]) (N := 34) (sums := [S125, S130, S570, S126, S609, S610, S611]) aiX1_spotFor (abX1_spotFor w0) (by decide) (List.forall_mem_cons.mpr ⟨sum_up q125 1, List.forall_mem_cons.mpr ⟨sum_up q130 0, List.forall_mem_cons.mpr ⟨sum_up q570 1, List.forall_mem_cons.mpr ⟨sum_up q126 0, List.forall_mem_cons.mpr ⟨sum_up q609 0, List.forall_mem_cons.mpr ⟨sum_up q610 0, List.forall_mem_cons.mpr ⟨sum_up q611 0, fun _ h => absurd h List.not_mem_nil⟩⟩⟩⟩⟩⟩⟩) (by decide +kernel)
noncomputable def S613 : Sum1 := (20, [cR 62, cR 75, cI 0 8, cI 0 255, cI 0 8, cI 0 3], [], [], [(62, 1, 3), (63, 0, 7)], [([cR 62, cR 75, cI 0 8, cI 0 255, cI 0 8, cI 0 3], [], [], none)])
theorem q613 : sum_g w0 (pm_Rt pm_P 4) S613 := meth_okB (d := 3) (cuts := [(18, [([(0, cR 62), (1, cR 75), (2, cI 0 8), (3, cI 0 255), (4, cI 0 8), (5, cI 0 3), (6, cI 0 8)], [], [], [], [.inl 0, .inr (.inl 6, true), .inl 0])])]) (spl := []) (K := [0, 1, 2, 3, 4, 5]) (N := 31) (sums := [S574, S573, S612]) aiX1_fill (abX1_fill w0) (by decide) (List.forall_mem_cons.mpr ⟨sum_up q574 2, List.forall_mem_cons.mpr ⟨sum_up q573 1, List.forall_mem_cons.mpr ⟨sum_up q612 0, fun _ h => absurd h List.not_mem_nil⟩⟩⟩) (by decide +kernel)
noncomputable def S614 : Sum1 := (157, [cR 0, cI 0 7, cI 1 8], [], [], [(62, 1, 3), (63, 0, 7), (75, 0, 7)], [([cR 0, cI 0 7, cI 1 8], [], [], none)])
theorem q614 : sum_g w0 (pm_Rt pm_P 5) S614 := meth_okB (d := 4) (cuts := []) (spl := []) (K := [0, 1, 2]) (N := 25) (sums := [S608, S120, S613]) aiX8_parkWith (abX8_parkWith w0) (by decide) (List.forall_mem_cons.mpr ⟨sum_up q608 3, List.forall_mem_cons.mpr ⟨sum_up q120 3, List.forall_mem_cons.mpr ⟨sum_up q613 0, fun _ h => absurd h List.not_mem_nil⟩⟩⟩) (by decide +kernel)
noncomputable def S615 : Sum1 := (148, [cR 0], [], [], [(62, 1, 3), (63, 0, 7), (75, 0, 7)], [([cR 0], [], [], some (.inl (cI (-2) 79)))])
theorem q615 : sum_g w0 (pm_Rt pm_P 6) S615 := meth_okB (d := 5) (cuts := [(29, [([(0, cR 0), (1, cI 0 8), (2, cI (-1) 79), (3, cI 0 8)], [], [((15, 0), 1, 8), ((62, 2), 0, 255)], [], [.inl 0, .inr (.inl 3, true), .inl 1])]), (43, [([(0, cR 0), (1, cI 0 8), (2, cI (-1) 79), (3, cI 0 7), (4, cI 1 9)], [], [((15, 0), 1, 8), ((15, 4), 1, 8), ((62, 2), 0, 255)], [], [.inl 0, .inr (.inl 3, true), .inl 0, .inr (.inl 4, true), .inl 0])])]) (spl := []) (K := [0]) (N := 29) (sums := [S158, S137, S614, S607]) aiX8_mend (abX8_mend w0) (by decide) (List.forall_mem_cons.mpr ⟨sum_up q158 4, List.forall_mem_cons.mpr ⟨sum_up q137 0, List.forall_mem_cons.mpr ⟨sum_up q614 0, List.forall_mem_cons.mpr ⟨sum_up q607 4, fun _ h => absurd h List.not_mem_nil⟩⟩⟩⟩) (by decide +kernel)
noncomputable def S616 : Sum1 := (348, [cI 0 255], [], [], [], [([cI 3 255], [], [], some (.inl (cI 2 8))), ([cI 1 128], [], [], some (.inl (cI 1 1))), ([cI 0 0], [], [], some (.inl (cI 0 0)))])
theorem q616 : sum_g w0 (pm_Rt pm_P 1) S616 := sz_sum (hi := 255) (k := 8) (e := 128) (by decide) (by decide +kernel)
noncomputable def S617 : Sum1 := (348, [cI 0 0], [], [], [], [([cI 0 0], [], [], some (.inl (cI 0 0)))])
theorem q617 : sum_g w0 (pm_Rt pm_P 1) S617 := meth_okB (d := 0) (cuts := []) (spl := [2]) (K := [0]) (N := 9) (sums := []) aiX9_sizeOf (abX9_sizeOf w0) (by decide) (fun _ h => absurd h List.not_mem_nil) (by decide +kernel)
noncomputable def S618 : Sum1 := (348, [cI 0 254], [], [], [], [([cI 3 254], [], [], some (.inl (cI 2 7))), ([cI 1 128], [], [], some (.inl (cI 1 1))), ([cI 0 0], [], [], some (.inl (cI 0 0)))])
theorem q618 : sum_g w0 (pm_Rt pm_P 1) S618 := sz_sum (hi := 254) (k := 7) (e := 128) (by decide) (by decide +kernel)
noncomputable def S619 : Sum1 := (311, [cR 77], [], [125], [(77, 0, 0), (77, 22, 23), (77, 27, 27), (89, 0, 7), (90, 0, 9), (91, 0, 7)], [([cR 77], [], [], some (.inl (cI (-2) 79)))])
theorem q619 : sum_g w0 (pm_Rt pm_P 6) S619 := meth_okB (d := 5) (cuts := [(31, [([(0, cR 77), (1, cI 0 8), (2, cI (-1) 79), (3, cI 0 8)], [], [((77, 0), 0, 0), ((77, 23), 0, 255), ((77, 27), 0, 255), ((83, 0), 1, 2147483647)], [125], [.inl 0, .inr (.inl 3, true), .inl 1])]), (42, [([(0, cR 77), (1, cI 0 8), (2, cI (-1) 79), (3, cI 0 7), (4, cI 1 9)], [], [((77, 0), 0, 0), ((77, 23), 0, 255), ((77, 27), 0, 255), ((83, 0), 1, 2147483647), ((84, 3), 1, 8)], [125], [.inl 0, .inr (.inl 3, true), .inl 0, .inr (.inl 4, true), .inl 0])])]) (spl := []) (K := [0]) (N := 33) (sums := [S160, S150, S112, S140, S118, S617, S149, S618, S616]) aiX9_mend (abX9_mend w0) (by decide) (List.forall_mem_cons.mpr ⟨sum_up q160 4, List.forall_mem_cons.mpr ⟨sum_up q150 0, List.forall_mem_cons.mpr ⟨sum_up q112 4, List.forall_mem_cons.mpr ⟨sum_up q140 4, List.forall_mem_cons.mpr ⟨sum_up q118 3, List.forall_mem_cons.mpr ⟨sum_up q617 4, List.forall_mem_cons.mpr ⟨sum_up q149 1, List.forall_mem_cons.mpr ⟨sum_up q618 4, List.forall_mem_cons.mpr ⟨sum_up q616 4, fun _ h => absurd h List.not_mem_nil⟩⟩⟩⟩⟩⟩⟩⟩⟩) (by decide +kernel)
noncomputable def S620 : Sum1 := (153, [cR 0, cR 75, cI 0 3], [], [], [(62, 1, 3), (63, 0, 7)], [([cR 0, cR 75, cI 0 3], [], [], none)])
theorem q620 : sum_g w0 (pm_Rt pm_P 5) S620 := meth_okB (d := 4) (cuts := []) (spl := []) (K := [0, 1, 2]) (N := 15) (sums := [S120, S613]) aiX8_park (abX8_park w0) (by decide) (List.forall_mem_cons.mpr ⟨sum_up q120 3, List.forall_mem_cons.mpr ⟨sum_up q613 0, fun _ h => absurd h List.not_mem_nil⟩⟩) (by decide +kernel)
noncomputable def S621 : Sum1 := (187, [cR 0], [], [], [(62, 1, 3), (63, 0, 7), (75, 0, 7)], [([cR 0], [], [], some (.inl (cI (-2) 79)))])
theorem q621 : sum_g w0 (pm_Rt pm_P 6) S621 := meth_okB (d := 5) (cuts := [(38, [([(0, cR 0), (1, cI 0 8), (2, cI (-2147483648) 2147483647), (3, cI (-1) 79), (4, cI 0 8)], [], [((15, 0), 1, 8), ((62, 2), 0, 255)], [], [.inl 0, .inr (.inl 4, true), .inl 1])]), (56, [([(0, cR 0), (1, cI 0 8), (2, cI (-2147483648) 2147483647), (3, cI (-1) 79), (4, cI 0 7), (5, cI 1 8)], [], [((15, 0), 1, 8), ((15, 4), 1, 8), ((62, 2), 0, 255)], [], [.inl 0, .inr (.inl 4, true), .inl 0, .inr (.inl 5, true), .inl 0])])]) (spl := []) (K := [0]) (N := 56) (sums := [S158, S137, S608, S620, S607]) aiX8_swap (abX8_swap w0) (by decide) (List.forall_mem_cons.mpr ⟨sum_up q158 4, List.forall_mem_cons.mpr ⟨sum_up q137 0, List.forall_mem_cons.mpr ⟨sum_up q608 4, List.forall_mem_cons.mpr ⟨sum_up q620 0, List.forall_mem_cons.mpr ⟨sum_up q607 4, fun _ h => absurd h List.not_mem_nil⟩⟩⟩⟩⟩) (by decide +kernel)
noncomputable def S622 : Sum1 := (361, [cR 77, cI 0 7, cI 1 7], [], [], [(89, 0, 7)], [([cR 77, cI 0 7, cI 1 7], [], [], none)])
theorem q622 : sum_g w0 (pm_Rt pm_P 1) S622 := meth_okB (d := 0) (cuts := []) (spl := []) (K := [0, 1, 2]) (N := 20) (sums := []) aiX9_trade (abX9_trade w0) (by decide) (fun _ h => absurd h List.not_mem_nil) (by decide +kernel)
noncomputable def S623 : Sum1 := (357, [cR 77], [], [125], [(77, 0, 0), (77, 22, 23), (77, 27, 27), (89, 0, 7), (90, 0, 9), (91, 0, 7)], [([cR 77], [], [], some (.inl (cI (-2) 79)))])
theorem q623 : sum_g w0 (pm_Rt pm_P 6) S623 := meth_okB (d := 5) (cuts := [(37, [([(0, cR 77), (1, cI 0 8), (2, cI (-2147483648) 2147483647), (3, cI (-1) 79), (4, cI 0 8)], [], [((77, 0), 0, 0), ((77, 23), 0, 255), ((77, 27), 0, 255), ((83, 0), 1, 2147483647)], [125], [.inl 0, .inr (.inl 4, true), .inl 1])]), (52, [([(0, cR 77), (1, cI 0 8), (2, cI (-2147483648) 2147483647), (3, cI (-1) 79), (4, cI 0 7), (5, cI 1 8)], [], [((77, 0), 0, 0), ((77, 23), 0, 255), ((77, 27), 0, 255), ((83, 0), 1, 2147483647), ((84, 3), 1, 8)], [125], [.inl 0, .inr (.inl 4, true), .inl 0, .inr (.inl 5, true), .inl 0])])]) (spl := []) (K := [0]) (N := 35) (sums := [S160, S150, S172, S112, S118, S149, S622, S616]) aiX9_swap (abX9_swap w0) (by decide) (List.forall_mem_cons.mpr ⟨sum_up q160 4, List.forall_mem_cons.mpr ⟨sum_up q150 0, List.forall_mem_cons.mpr ⟨sum_up q172 2, List.forall_mem_cons.mpr ⟨sum_up q112 4, List.forall_mem_cons.mpr ⟨sum_up q118 3, List.forall_mem_cons.mpr ⟨sum_up q149 1, List.forall_mem_cons.mpr ⟨sum_up q622 4, List.forall_mem_cons.mpr ⟨sum_up q616 4, fun _ h => absurd h List.not_mem_nil⟩⟩⟩⟩⟩⟩⟩⟩) (by decide +kernel)
noncomputable def S624 : Sum1 := (103, [cR 0], [((15, 4), 1, 8)], [], [], [([cR 0], [], [], some (.inl (cI 1 255)))])
theorem q624 : sum_g w0 (pm_Rt pm_P 1) S624 := meth_okB (d := 0) (cuts := []) (spl := []) (K := [0]) (N := 9) (sums := []) aiX8_everyCar (abX8_everyCar w0) (by decide) (fun _ h => absurd h List.not_mem_nil) (by decide +kernel)
noncomputable def S625 : Sum1 := (156, [cR 0, cI 0 255], [], [], [(62, 1, 3), (63, 0, 7)], [([cR 0, cI 0 255], [], [], none)])
theorem q625 : sum_g w0 (pm_Rt pm_P 5) S625 := meth_okB (d := 4) (cuts := []) (spl := []) (K := [0, 1]) (N := 18) (sums := [S136]) aiX8_parkSet (abX8_parkSet w0) (by decide) (List.forall_mem_cons.mpr ⟨sum_up q136 0, fun _ h => absurd h List.not_mem_nil⟩) (by decide +kernel)
noncomputable def S626 : Sum1 := (83, [cR 0], [], [], [(62, 1, 3), (63, 0, 7)], [([cR 0], [], [], some (.inl (cI (-2) 7)))])
theorem q626 : sum_g w0 (pm_Rt pm_P 6) S626 := meth_okB (d := 5) (cuts := [(16, [([(0, cR 0), (1, cI (-2147483648) 2147483646), (2, cI (-1) 7), (3, cI 0 8)], [], [((15, 0), 1, 8)], [], [.inl 0, .inr (.inl 3, true), .inl 0])])]) (spl := []) (K := [0]) (N := 53) (sums := [S624, S158, S137, S153, S625]) aiX8_blame (abX8_blame w0) (by decide) (List.forall_mem_cons.mpr ⟨sum_up q624 4, List.forall_mem_cons.mpr ⟨sum_up q158 4, List.forall_mem_cons.mpr ⟨sum_up q137 0, List.forall_mem_cons.mpr ⟨sum_up q153 3, List.forall_mem_cons.mpr ⟨sum_up q625 0, fun _ h => absurd h List.not_mem_nil⟩⟩⟩⟩⟩) (by decide +kernel)
noncomputable def S627 : Sum1 := (214, [cR 77], [], [125], [(77, 0, 0), (77, 22, 23), (77, 27, 27), (89, 0, 7), (90, 0, 9), (91, 0, 7)], [([cR 77], [], [], some (.inl (cI (-2) 7)))])
theorem q627 : sum_g w0 (pm_Rt pm_P 6) S627 := meth_okB (d := 5) (cuts := [(22, [([(0, cR 77), (1, cI (-1) 7), (2, cI (-2147483648) 1000000), (3, cI 0 8)], [], [((77, 0), 0, 0), ((83, 0), 1, 2147483647)], [125], [.inl 0, .inr (.inl 3, true), .inl 0])])]) (spl := []) (K := [0]) (N := 49) (sums := [S160, S112, S150, S172, S149, S156]) aiX9_blame (abX9_blame w0) (by decide) (List.forall_mem_cons.mpr ⟨sum_up q160 4, List.forall_mem_cons.mpr ⟨sum_up q112 4, List.forall_mem_cons.mpr ⟨sum_up q150 0, List.forall_mem_cons.mpr ⟨sum_up q172 2, List.forall_mem_cons.mpr ⟨sum_up q149 1, List.forall_mem_cons.mpr ⟨sum_up q156 3, fun _ h => absurd h List.not_mem_nil⟩⟩⟩⟩⟩⟩) (by decide +kernel)
noncomputable def ah7_X8_sightRefusal : List (Nat × AR w0) := [(0, .inl (R_il 1 1)), (1, .inr (.inl (127, 1, none, 0, 0))), (4, .inl (R_if1_eq 11 7)), (7, .inl (R_il 2 8)), (8, .inl (R_if1_ne 14 11)), (11, .inl (R_const (.int (-2)) 13)), (13, .inr (.inr 1)), (14, .inl (R_al 0 15)), (15, .inl (R_getf 8 5 18)), (18, .inl (R_il 1 19)), (19, .inl (R_aald 5 20)), (20, .inl (R_as 3 21)), (21, .inl (R_al 3 22)), (22, .inl (R_getf 4 1 25)), (25, .inl (R_if1_ne 31 28)), (28, .inl (R_const (.int (-6)) 30)), (30, .inr (.inr 1)), (31, .inl (R_al 3 32)), (32, .inl (R_getf 4 3 35)), (35, .inl (R_const (.int 2) 36)), (36, .inl (R_irem 37)), (37, .inl (R_if1_eq 43 40)), (40, .inl (R_const (.int (-2)) 42)), (42, .inr (.inr 1)), (43, .inl (R_const (.int 0) 44)), (44, .inl (R_h (R_h (R_h (R_h (R_is 4 46) (l_nil 0) (l_nil_ok 0)) (l_nil 1) (l_nil_ok 1)) (l_nil 2) (l_nil_ok 2)) (l_nil 3) (l_nil_ok 3))), (46, .inl (R_il 4 48)), (48, .inl (R_const (.int 1) 49)), (49, .inl (R_add 50)), (50, .inl (R_al 3 51)), (51, .inl (R_getf 4 3 54)), (54, .inl (R_if2_ge 156 57)), (57, .inl (R_al 3 58)), (58, .inl (R_getf 4 0 61)), (61, .inl (R_il 4 63)), (63, .inl (R_lalm 64)), (64, .inl (R_const (.long 0) 65)), (65, .inl (R_lcmp 66)), (66, .inl (R_if1_lt 92 69)), (69, .inl (R_al 3 70)), (70, .inl (R_getf 4 0 73)), (73, .inl (R_il 4 75)), (75, .inl (R_lalm 76)), (76, .inl (R_al 0 77)), (77, .inl (R_getf 8 2 80)), (80, .inl (R_getf 5 4 83)), (83, .inl (R_i2l 84)), (84, .inl (R_lcmp 85)), (85, .inl (R_if1_ge 92 88)), (88, .inl (R_const (.int 1) 89)), (89, .inl (R_goto 93)), (92, .inl (R_const (.int 0) 93)), (93, .inl (R_is 5 95)), (95, .inl (R_al 3 96)), (96, .inl (R_getf 4 0 99)), (99, .inl (R_il 4 101)), (101, .inl (R_const (.int 1) 102)), (102, .inl (R_add 103)), (103, .inl (R_lalm 104)), (104, .inl (R_const (.long 0) 105)), (105, .inl (R_lcmp 106)), (106, .inl (R_if1_lt 134 109)), (109, .inl (R_al 3 110)), (110, .inl (R_getf 4 0 113)), (113, .inl (R_il 4 115)), (115, .inl (R_const (.int 1) 116)), (116, .inl (R_add 117)), (117, .inl (R_lalm 118)), (118, .inl (R_al 0 119)), (119, .inl (R_getf 8 2 122)), (122, .inl (R_getf 5 0 125)), (125, .inl (R_i2l 126)), (126, .inl (R_lcmp 127)), (127, .inl (R_if1_gt 134 130)), (130, .inl (R_const (.int 1) 131)), (131, .inl (R_goto 135)), (134, .inl (R_const (.int 0) 135)), (135, .inl (R_is 6 137)), (137, .inl (R_il 5 139)), (139, .inl (R_if1_eq 147 142)), (142, .inl (R_il 6 144)), (144, .inl (R_if1_ne 150 147)), (147, .inl (R_const (.int (-2)) 149)), (149, .inr (.inr 1)), (150, .inl (R_h (R_h (R_h (R_h (R_inc 4 2 153) (l_step 0) (l_step_ok 0)) (l_step 1) (l_step_ok 1)) (l_step 2) (l_step_ok 2)) (l_step 3) (l_step_ok 3))), (153, .inl (R_goto 46)), (156, .inl (R_h (R_h (R_h (R_h (R_const (.int 0) 157) (l_dint 0) (l_dint_ok 0)) (l_dint 1) (l_dint_ok 1)) (l_dint 2) (l_dint_ok 2)) (l_dint 3) (l_dint_ok 3))), (157, .inr (.inr 1))]
set_option maxRecDepth 20000 in
theorem bah7_X8_sightRefusal : iX8_sightRefusal.2.2.2.2.2.2.2 = ar_tab ah7_X8_sightRefusal := rfl
noncomputable def S628 : Sum1 := (180, [cR 0, cI (-2147483648) 2147483647, cI 0 0], [], [], [], [([cR 0, cI (-2147483648) 2147483647, cI 0 0], [], [], some (.inl (cI (-2) (-2))))])
theorem q628 : sum_g w0 (pm_Rt pm_P 2) S628 := meth_okB (d := 1) (cuts := []) (spl := []) (K := [0, 1, 2]) (N := 8) (sums := [S316]) aiX8_sightRefusal bah7_X8_sightRefusal (by decide) (List.forall_mem_cons.mpr ⟨sum_up q316 0, fun _ h => absurd h List.not_mem_nil⟩) (by decide +kernel)
noncomputable def S629 : Sum1 := (180, [cR 0, cI (-2147483648) 2147483647, cI 1 1], [], [], [], [([cR 0, cI (-2147483648) 2147483647, cI 1 1], [], [], some (.inl (cI (-6) (-2)))), ([cR 0, cI 3 3, cI 1 1], [((60, 1), 1, 1)], [457], some (.inl (cI 0 0))), ([cR 0, cI 2 2, cI 1 1], [((58, 1), 1, 1)], [395], some (.inl (cI 0 0))), ([cR 0, cI 1 1, cI 1 1], [((56, 1), 1, 1)], [333], some (.inl (cI 0 0))), ([cR 0, cI 0 0, cI 1 1], [((54, 1), 1, 1)], [271], some (.inl (cI 0 0)))])
set_option maxRecDepth 20000 in
theorem q629 : sum_g w0 (pm_Rt pm_P 2) S629 := by
  intro h as hh ha _ _
  match as, ha with
  | [.ref a, .int x, .int y], ⟨h1, h2, h3, _⟩ =>
    have h1 : a = 0 := h1
    have h3 : (1 : Int) ≤ y.toInt ∧ y.toInt ≤ 1 := h3
    have h4 : y = nJ 1 := Int32.toInt_inj.mp (show y.toInt = 1 by omega)
    subst h1
    subst h4
    obtain ⟨h', r, p1, e, p2⟩ := sp_sight (x := x) hh
    subst e
    refine ⟨h', r, p1, hh, fun _ _ _ => rfl, ?_⟩
    rcases p2 with ⟨y, rfl, y1, y2⟩ | ⟨s, hs, rfl, rfl, f1, f2⟩
    · exact ⟨_, List.mem_cons_self, ⟨rfl, ⟨ai_lo x, ai_hi x⟩, ⟨by decide, by decide⟩, trivial⟩, fun _ hq => absurd hq List.not_mem_nil, fun _ hq => absurd hq List.not_mem_nil, ⟨y1, y2⟩⟩
    · match s, hs, f1, f2 with
      | 0, _, f1, f2 => exact ⟨_, List.mem_cons_of_mem _ (List.mem_cons_of_mem _ (List.mem_cons_of_mem _ (List.mem_cons_of_mem _ List.mem_cons_self))), ⟨rfl, ⟨by decide, by decide⟩, ⟨by decide, by decide⟩, trivial⟩, fun q hq => by rw [List.mem_singleton.mp hq]; exact ⟨1, by rw [← f1]; exact (ld_gi hh (a := 54) (k := 1) rfl).1, by decide, by decide⟩, fun i hi => by rw [List.mem_singleton.mp hi]; exact f2, ⟨by decide, by decide⟩⟩
      | 1, _, f1, f2 => exact ⟨_, List.mem_cons_of_mem _ (List.mem_cons_of_mem _ (List.mem_cons_of_mem _ List.mem_cons_self)), ⟨rfl, ⟨by decide, by decide⟩, ⟨by decide, by decide⟩, trivial⟩, fun q hq => by rw [List.mem_singleton.mp hq]; exact ⟨1, by rw [← f1]; exact (ld_gi hh (a := 56) (k := 1) rfl).1, by decide, by decide⟩, fun i hi => by rw [List.mem_singleton.mp hi]; exact f2, ⟨by decide, by decide⟩⟩
      | 2, _, f1, f2 => exact ⟨_, List.mem_cons_of_mem _ (List.mem_cons_of_mem _ List.mem_cons_self), ⟨rfl, ⟨by decide, by decide⟩, ⟨by decide, by decide⟩, trivial⟩, fun q hq => by rw [List.mem_singleton.mp hq]; exact ⟨1, by rw [← f1]; exact (ld_gi hh (a := 58) (k := 1) rfl).1, by decide, by decide⟩, fun i hi => by rw [List.mem_singleton.mp hi]; exact f2, ⟨by decide, by decide⟩⟩
      | 3, _, f1, f2 => exact ⟨_, List.mem_cons_of_mem _ List.mem_cons_self, ⟨rfl, ⟨by decide, by decide⟩, ⟨by decide, by decide⟩, trivial⟩, fun q hq => by rw [List.mem_singleton.mp hq]; exact ⟨1, by rw [← f1]; exact (ld_gi hh (a := 60) (k := 1) rfl).1, by decide, by decide⟩, fun i hi => by rw [List.mem_singleton.mp hi]; exact f2, ⟨by decide, by decide⟩⟩
end
section
/-! what is known of the methods, checked (written by emit.py) -/
noncomputable def S630 : Sum1 := (124, [cR 0, cR 54], [], [271], [], [([cR 0, cR 54], [((54, 3), 2, 60)], [], some (.inl (cI 0 0))), ([cR 0, cR 54], [], [], some (.inl (cI 1 1)))])
theorem q630 : sum_g w0 (pm_Rt pm_P 1) S630 := asq0
noncomputable def S631 : Sum1 := (109, [cR 0, cR 54, cI 0 7], [], [271], [(62, 1, 3), (63, 0, 7), (75, 0, 7), (76, 0, 63)], [([cR 0, cR 54, cI 0 7], [], [], some (.inl (cI 0 255)))])
theorem q631 : sum_g w0 (pm_Rt pm_P 6) S631 := meth_okB (d := 5) (cuts := [(5, [([(0, cR 0), (1, cR 54), (2, cI 0 7), (3, cI 0 255), (4, cI 1 9)], [], [], [271], [.inl 0, .inr (.inl 4, true), .inl 1])]), (43, [([(0, cR 0), (1, cR 54), (2, cI 0 7), (3, cI 0 255), (4, cI 1 8), (5, cI 0 8)], [], [((15, 0), 1, 8)], [271], [.inl 0, .inr (.inl 4, true), .inl 0, .inr (.inl 5, true), .inl 0])])]) (spl := []) (K := [0, 1, 2]) (N := 23) (sums := [S630, S132, S614]) aiX8_fitting (abX8_fitting w0) (by decide) (List.forall_mem_cons.mpr ⟨sum_up q630 4, List.forall_mem_cons.mpr ⟨sum_up q132 4, List.forall_mem_cons.mpr ⟨sum_up q614 0, fun _ h => absurd h List.not_mem_nil⟩⟩⟩) (by decide +kernel)
noncomputable def S632 : Sum1 := (124, [cR 0, cR 56], [], [333], [], [([cR 0, cR 56], [((56, 3), 2, 60)], [], some (.inl (cI 0 0))), ([cR 0, cR 56], [], [], some (.inl (cI 1 1)))])
theorem q632 : sum_g w0 (pm_Rt pm_P 1) S632 := asq1
noncomputable def S633 : Sum1 := (109, [cR 0, cR 56, cI 0 7], [], [333], [(62, 1, 3), (63, 0, 7), (75, 0, 7), (76, 0, 63)], [([cR 0, cR 56, cI 0 7], [], [], some (.inl (cI 0 255)))])
theorem q633 : sum_g w0 (pm_Rt pm_P 6) S633 := meth_okB (d := 5) (cuts := [(5, [([(0, cR 0), (1, cR 56), (2, cI 0 7), (3, cI 0 255), (4, cI 1 9)], [], [], [333], [.inl 0, .inr (.inl 4, true), .inl 1])]), (43, [([(0, cR 0), (1, cR 56), (2, cI 0 7), (3, cI 0 255), (4, cI 1 8), (5, cI 0 8)], [], [((15, 0), 1, 8)], [333], [.inl 0, .inr (.inl 4, true), .inl 0, .inr (.inl 5, true), .inl 0])])]) (spl := []) (K := [0, 1, 2]) (N := 23) (sums := [S632, S132, S614]) aiX8_fitting (abX8_fitting w0) (by decide) (List.forall_mem_cons.mpr ⟨sum_up q632 4, List.forall_mem_cons.mpr ⟨sum_up q132 4, List.forall_mem_cons.mpr ⟨sum_up q614 0, fun _ h => absurd h List.not_mem_nil⟩⟩⟩) (by decide +kernel)
noncomputable def S634 : Sum1 := (124, [cR 0, cR 58], [], [395], [], [([cR 0, cR 58], [((58, 3), 2, 60)], [], some (.inl (cI 0 0))), ([cR 0, cR 58], [], [], some (.inl (cI 1 1)))])
theorem q634 : sum_g w0 (pm_Rt pm_P 1) S634 := asq2
noncomputable def S635 : Sum1 := (109, [cR 0, cR 58, cI 0 7], [], [395], [(62, 1, 3), (63, 0, 7), (75, 0, 7), (76, 0, 63)], [([cR 0, cR 58, cI 0 7], [], [], some (.inl (cI 0 255)))])
theorem q635 : sum_g w0 (pm_Rt pm_P 6) S635 := meth_okB (d := 5) (cuts := [(5, [([(0, cR 0), (1, cR 58), (2, cI 0 7), (3, cI 0 255), (4, cI 1 9)], [], [], [395], [.inl 0, .inr (.inl 4, true), .inl 1])]), (43, [([(0, cR 0), (1, cR 58), (2, cI 0 7), (3, cI 0 255), (4, cI 1 8), (5, cI 0 8)], [], [((15, 0), 1, 8)], [395], [.inl 0, .inr (.inl 4, true), .inl 0, .inr (.inl 5, true), .inl 0])])]) (spl := []) (K := [0, 1, 2]) (N := 23) (sums := [S634, S132, S614]) aiX8_fitting (abX8_fitting w0) (by decide) (List.forall_mem_cons.mpr ⟨sum_up q634 4, List.forall_mem_cons.mpr ⟨sum_up q132 4, List.forall_mem_cons.mpr ⟨sum_up q614 0, fun _ h => absurd h List.not_mem_nil⟩⟩⟩) (by decide +kernel)
noncomputable def S636 : Sum1 := (124, [cR 0, cR 60], [], [457], [], [([cR 0, cR 60], [((60, 3), 2, 60)], [], some (.inl (cI 0 0))), ([cR 0, cR 60], [], [], some (.inl (cI 1 1)))])
theorem q636 : sum_g w0 (pm_Rt pm_P 1) S636 := asq3
noncomputable def S637 : Sum1 := (109, [cR 0, cR 60, cI 0 7], [], [457], [(62, 1, 3), (63, 0, 7), (75, 0, 7), (76, 0, 63)], [([cR 0, cR 60, cI 0 7], [], [], some (.inl (cI 0 255)))])
theorem q637 : sum_g w0 (pm_Rt pm_P 6) S637 := meth_okB (d := 5) (cuts := [(5, [([(0, cR 0), (1, cR 60), (2, cI 0 7), (3, cI 0 255), (4, cI 1 9)], [], [], [457], [.inl 0, .inr (.inl 4, true), .inl 1])]), (43, [([(0, cR 0), (1, cR 60), (2, cI 0 7), (3, cI 0 255), (4, cI 1 8), (5, cI 0 8)], [], [((15, 0), 1, 8)], [457], [.inl 0, .inr (.inl 4, true), .inl 0, .inr (.inl 5, true), .inl 0])])]) (spl := []) (K := [0, 1, 2]) (N := 23) (sums := [S636, S132, S614]) aiX8_fitting (abX8_fitting w0) (by decide) (List.forall_mem_cons.mpr ⟨sum_up q636 4, List.forall_mem_cons.mpr ⟨sum_up q132 4, List.forall_mem_cons.mpr ⟨sum_up q614 0, fun _ h => absurd h List.not_mem_nil⟩⟩⟩) (by decide +kernel)
noncomputable def S638 : Sum1 := (108, [cR 0, cI (-2147483648) 2147483647, cI (-2147483648) 2147483647], [], [], [(62, 1, 3), (63, 0, 7), (75, 0, 7), (76, 0, 63)], [([cR 0, cI (-2147483648) 2147483647, cI (-2147483648) 2147483647], [], [], some (.inl (cI (-6) 255)))])
theorem q638 : sum_g w0 (pm_Rt pm_P 7) S638 := meth_okB (d := 6) (cuts := []) (spl := []) (K := [0, 1, 2]) (N := 18) (sums := [S631, S633, S635, S637, S109, S628, S629]) aiX8_fits (abX8_fits w0) (by decide) (List.forall_mem_cons.mpr ⟨sum_up q631 0, List.forall_mem_cons.mpr ⟨sum_up q633 0, List.forall_mem_cons.mpr ⟨sum_up q635 0, List.forall_mem_cons.mpr ⟨sum_up q637 0, List.forall_mem_cons.mpr ⟨sum_up q109 5, List.forall_mem_cons.mpr ⟨sum_up q628 4, List.forall_mem_cons.mpr ⟨sum_up q629 4, fun _ h => absurd h List.not_mem_nil⟩⟩⟩⟩⟩⟩⟩) (by decide +kernel)
noncomputable def ah12_X9_whyNot : List (Nat × AR w0) := [(0, .inl (R_il 1 1)), (1, .inr (.inl (278, 1, none, 0, 0))), (4, .inl (R_if1_eq 18 7)), (7, .inl (R_al 0 8)), (8, .inr (.inl (281, 1, some 9, 0, 0))), (11, .inl (R_if1_eq 18 14)), (14, .inl (R_il 2 15)), (15, .inl (R_if1_ne 21 18)), (18, .inl (R_const (.int (-2)) 20)), (20, .inr (.inr 1)), (21, .inl (R_al 0 22)), (22, .inl (R_getf 9 1 25)), (25, .inl (R_il 1 26)), (26, .inl (R_iald 27)), (27, .inl (R_const (.int (-1)) 28)), (28, .inl (R_if2_ne 34 31)), (31, .inl (R_const (.int (-6)) 33)), (33, .inr (.inr 1)), (34, .inl (R_al 0 35)), (35, .inl (R_getf 9 2 38)), (38, .inl (R_il 1 39)), (39, .inl (R_iald 40)), (40, .inl (R_const (.int 2) 41)), (41, .inl (R_irem 42)), (42, .inl (R_if1_eq 48 45)), (45, .inl (R_const (.int (-2)) 47)), (47, .inr (.inr 1)), (48, .inl (R_const (.int 0) 49)), (49, .inl (R_h (R_h (R_h (R_h (R_is 3 50) (l_nil 8) (l_nil_ok 8)) (l_nil 9) (l_nil_ok 9)) (l_nil 10) (l_nil_ok 10)) (l_nil 11) (l_nil_ok 11))), (50, .inl (R_il 3 51)), (51, .inl (R_al 0 52)), (52, .inl (R_getf 9 2 55)), (55, .inl (R_il 1 56)), (56, .inl (R_iald 57)), (57, .inl (R_if2_ge 112 60)), (60, .inl (R_const (.int 60) 62)), (62, .inl (R_il 1 63)), (63, .inl (R_mul 64)), (64, .inl (R_il 3 65)), (65, .inl (R_add 66)), (66, .inl (R_is 4 68)), (68, .inl (R_al 0 69)), (69, .inl (R_al 0 70)), (70, .inl (R_getf 9 3 73)), (73, .inl (R_il 4 75)), (75, .inl (R_lalm 76)), (76, .inr (.inl (267, 2, some 9, 0, 0))), (79, .inl (R_if1_eq 103 82)), (82, .inl (R_al 0 83)), (83, .inl (R_getf 9 3 86)), (86, .inl (R_il 4 88)), (88, .inl (R_const (.int 1) 89)), (89, .inl (R_add 90)), (90, .inl (R_lalm 91)), (91, .inl (R_const (.long 0) 92)), (92, .inl (R_al 0 93)), (93, .inr (.inl (325, 1, some 9, 0, 0))), (96, .inl (R_i2l 97)), (97, .inr (.inl (261, 3, none, 0, 0))), (100, .inl (R_if1_ne 106 103)), (103, .inl (R_const (.int (-2)) 105)), (105, .inr (.inr 1)), (106, .inl (R_h (R_h (R_h (R_h (R_inc 3 2 109) (l_step 8) (l_step_ok 8)) (l_step 9) (l_step_ok 9)) (l_step 10) (l_step_ok 10)) (l_step 11) (l_step_ok 11))), (109, .inl (R_goto 50)), (112, .inl (R_h (R_h (R_h (R_h (R_const (.int 0) 113) (l_dint 8) (l_dint_ok 8)) (l_dint 9) (l_dint_ok 9)) (l_dint 10) (l_dint_ok 10)) (l_dint 11) (l_dint_ok 11))), (113, .inr (.inr 1))]
set_option maxRecDepth 20000 in
theorem bah12_X9_whyNot : iX9_whyNot.2.2.2.2.2.2.2 = ar_tab ah12_X9_whyNot := rfl
noncomputable def S639 : Sum1 := (372, [cR 77, cI (-2147483648) 2147483647, cI 0 0], [], [], [], [([cR 77, cI (-2147483648) 2147483647, cI 0 0], [], [], some (.inl (cI (-2) (-2))))])
theorem q639 : sum_g w0 (pm_Rt pm_P 3) S639 := meth_okB (d := 2) (cuts := []) (spl := [25]) (K := [0, 1, 2]) (N := 11) (sums := [S160, S486]) aiX9_whyNot bah12_X9_whyNot (by decide) (List.forall_mem_cons.mpr ⟨sum_up q160 1, List.forall_mem_cons.mpr ⟨sum_up q486 0, fun _ h => absurd h List.not_mem_nil⟩⟩) (by decide +kernel)
noncomputable def S643 : Sum1 := (372, [cR 77, cI (-2147483648) 2147483647, cI 1 1], [], [], [], [([cR 77, cI (-2147483648) 2147483647, cI 1 1], [], [], some (.inl (cI (-6) (-2)))), ([cR 77, cI 3 3, cI 1 1], [((78, 3), 0, 3), ((83, 0), 1, 2147483647)], [953], some (.inl (cI 0 0))), ([cR 77, cI 2 2, cI 1 1], [((78, 2), 0, 3), ((83, 0), 1, 2147483647)], [891], some (.inl (cI 0 0))), ([cR 77, cI 1 1, cI 1 1], [((78, 1), 0, 3), ((83, 0), 1, 2147483647)], [829], some (.inl (cI 0 0))), ([cR 77, cI 0 0, cI 1 1], [((78, 0), 0, 3), ((83, 0), 1, 2147483647)], [767], some (.inl (cI 0 0)))])
theorem q643 : sum_g w0 (pm_Rt pm_P 3) S643 := wnq
noncomputable def S645 : Sum1 := (280, [cR 77, cI 0 0], [], [767], [], [([cR 77, cI 0 0], [((79, 0), 1, 60)], [], some (.inl (cI 0 0))), ([cR 77, cI 0 0], [], [], some (.inl (cI 1 1)))])
theorem q645 : sum_g w0 (pm_Rt pm_P 2) S645 := soq0
noncomputable def S646 : Sum1 := (265, [cI 0 255, cI 0 7], [], [], [], [([cI 0 255, cI 0 7], [], [], some (.inl (cI 1 1))), ([cI 0 255, cI 0 7], [], [], some (.inl (cI 0 0)))])
theorem q646 : sum_g w0 (pm_Rt pm_P 1) S646 := meth_okB (d := 0) (cuts := []) (spl := []) (K := [0, 1]) (N := 11) (sums := []) aiX9_isBit (abX9_isBit w0) (by decide) (fun _ h => absurd h List.not_mem_nil) (by decide +kernel)
noncomputable def S647 : Sum1 := (313, [cI 0 2147483647, cI (-2147483648) 2147483647], [], [], [], [([cI 0 2147483647, cI (-2147483648) 2147483647], [], [], some (.inl (cI 0 2147483647)))])
theorem q647 : sum_g w0 (pm_Rt pm_P 1) S647 := meth_okB (d := 0) (cuts := []) (spl := []) (K := [0, 1]) (N := 7) (sums := []) aiX9_moreOf (abX9_moreOf w0) (by decide) (fun _ h => absurd h List.not_mem_nil) (by decide +kernel)
noncomputable def S648 : Sum1 := (377, [cR 77, cI 0 7], [], [], [], [([cR 77, cI 0 7], [], [], some (.inl (cI 0 2147483647)))])
theorem q648 : sum_g w0 (pm_Rt pm_P 2) S648 := meth_okB (d := 1) (cuts := [(4, [([(0, cR 77), (1, cI 0 7), (2, cI 0 2147483647), (3, cI 1 9)], [], [], [], [.inl 0, .inr (.inl 3, true), .inl 1])]), (18, [([(0, cR 77), (1, cI 0 7), (2, cI 0 2147483647), (3, cI 1 8), (4, cI (-2147483648) 2147483647), (5, cI 1 9)], [], [((84, 0), 1, 8)], [], [.inl 0, .inr (.inl 3, true), .inl 0, .inr (.inl 5, true), .inl 0])])]) (spl := []) (K := [0, 1]) (N := 43) (sums := [S140, S646, S647]) aiX9_worstBy (abX9_worstBy w0) (by decide) (List.forall_mem_cons.mpr ⟨sum_up q140 0, List.forall_mem_cons.mpr ⟨sum_up q646 0, List.forall_mem_cons.mpr ⟨sum_up q647 0, fun _ h => absurd h List.not_mem_nil⟩⟩⟩) (by decide +kernel)
noncomputable def S649 : Sum1 := (297, [cR 77, cI 0 0, cI 0 7], [], [125, 767], [(77, 22, 23), (77, 27, 27), (77, 41, 43), (89, 0, 7), (90, 0, 9), (91, 0, 7), (102, 8, 71)], [([cR 77, cI 0 0, cI 0 7], [((77, 43), 0, 8)], [], none)])
theorem q649 : sum_g w0 (pm_Rt pm_P 5) S649 := meth_okB (d := 4) (cuts := [(7, [([(0, cR 77), (1, cI 0 0), (2, cI 0 7), (3, cI 1 9)], [], [((77, 41), 0, 255)], [125, 767], [.inl 1, .inr (.inl 3, true), .inl 1])]), (63, [([(0, cR 77), (1, cI 0 0), (2, cI 0 7), (3, cI 1 8), (4, cI 0 8)], [], [((77, 22), 0, 3), ((77, 23), 0, 255), ((77, 41), 0, 255), ((84, 0), 1, 8)], [125, 767], [.inl 1, .inr (.inl 3, true), .inl 0, .inr (.inl 4, true), .inl 0])]), (121, [([(0, cR 77), (1, cI 0 0), (2, cI 0 7), (3, cI 0 8)], [], [((77, 41), 0, 255), ((77, 42), (-1), 7), ((77, 43), 0, 8)], [125, 767], [.inl 0, .inr (.inl 3, true), .inl 0])])]) (spl := []) (K := [0, 1, 2]) (N := 33) (sums := [S140, S118, S645, S112, S149, S648, S616]) aiX9_laysSeen (abX9_laysSeen w0) (by decide) (List.forall_mem_cons.mpr ⟨sum_up q140 3, List.forall_mem_cons.mpr ⟨sum_up q118 2, List.forall_mem_cons.mpr ⟨sum_up q645 2, List.forall_mem_cons.mpr ⟨sum_up q112 3, List.forall_mem_cons.mpr ⟨sum_up q149 0, List.forall_mem_cons.mpr ⟨sum_up q648 2, List.forall_mem_cons.mpr ⟨sum_up q616 3, fun _ h => absurd h List.not_mem_nil⟩⟩⟩⟩⟩⟩⟩) (by decide +kernel)
noncomputable def S650 : Sum1 := (280, [cR 77, cI 1 1], [], [829], [], [([cR 77, cI 1 1], [((79, 1), 1, 60)], [], some (.inl (cI 0 0))), ([cR 77, cI 1 1], [], [], some (.inl (cI 1 1)))])
theorem q650 : sum_g w0 (pm_Rt pm_P 2) S650 := soq1
end
section
/-! what is known of the methods, checked (written by emit.py) -/
noncomputable def S651 : Sum1 := (297, [cR 77, cI 1 1, cI 0 7], [], [125, 829], [(77, 22, 23), (77, 27, 27), (77, 41, 43), (89, 0, 7), (90, 0, 9), (91, 0, 7), (102, 8, 71)], [([cR 77, cI 1 1, cI 0 7], [((77, 43), 0, 8)], [], none)])
theorem q651 : sum_g w0 (pm_Rt pm_P 5) S651 := meth_okB (d := 4) (cuts := [(7, [([(0, cR 77), (1, cI 1 1), (2, cI 0 7), (3, cI 1 9)], [], [((77, 41), 0, 255)], [125, 829], [.inl 1, .inr (.inl 3, true), .inl 1])]), (63, [([(0, cR 77), (1, cI 1 1), (2, cI 0 7), (3, cI 1 8), (4, cI 0 8)], [], [((77, 22), 0, 3), ((77, 23), 0, 255), ((77, 41), 0, 255), ((84, 0), 1, 8)], [125, 829], [.inl 1, .inr (.inl 3, true), .inl 0, .inr (.inl 4, true), .inl 0])]), (121, [([(0, cR 77), (1, cI 1 1), (2, cI 0 7), (3, cI 0 8)], [], [((77, 41), 0, 255), ((77, 42), (-1), 7), ((77, 43), 0, 8)], [125, 829], [.inl 0, .inr (.inl 3, true), .inl 0])])]) (spl := []) (K := [0, 1, 2]) (N := 33) (sums := [S140, S118, S650, S112, S149, S648, S616]) aiX9_laysSeen (abX9_laysSeen w0) (by decide) (List.forall_mem_cons.mpr ⟨sum_up q140 3, List.forall_mem_cons.mpr ⟨sum_up q118 2, List.forall_mem_cons.mpr ⟨sum_up q650 2, List.forall_mem_cons.mpr ⟨sum_up q112 3, List.forall_mem_cons.mpr ⟨sum_up q149 0, List.forall_mem_cons.mpr ⟨sum_up q648 2, List.forall_mem_cons.mpr ⟨sum_up q616 3, fun _ h => absurd h List.not_mem_nil⟩⟩⟩⟩⟩⟩⟩) (by decide +kernel)
noncomputable def S652 : Sum1 := (280, [cR 77, cI 2 2], [], [891], [], [([cR 77, cI 2 2], [((79, 2), 1, 60)], [], some (.inl (cI 0 0))), ([cR 77, cI 2 2], [], [], some (.inl (cI 1 1)))])
theorem q652 : sum_g w0 (pm_Rt pm_P 2) S652 := soq2
noncomputable def S653 : Sum1 := (297, [cR 77, cI 2 2, cI 0 7], [], [125, 891], [(77, 22, 23), (77, 27, 27), (77, 41, 43), (89, 0, 7), (90, 0, 9), (91, 0, 7), (102, 8, 71)], [([cR 77, cI 2 2, cI 0 7], [((77, 43), 0, 8)], [], none)])
theorem q653 : sum_g w0 (pm_Rt pm_P 5) S653 := meth_okB (d := 4) (cuts := [(7, [([(0, cR 77), (1, cI 2 2), (2, cI 0 7), (3, cI 1 9)], [], [((77, 41), 0, 255)], [125, 891], [.inl 1, .inr (.inl 3, true), .inl 1])]), (63, [([(0, cR 77), (1, cI 2 2), (2, cI 0 7), (3, cI 1 8), (4, cI 0 8)], [], [((77, 22), 0, 3), ((77, 23), 0, 255), ((77, 41), 0, 255), ((84, 0), 1, 8)], [125, 891], [.inl 1, .inr (.inl 3, true), .inl 0, .inr (.inl 4, true), .inl 0])]), (121, [([(0, cR 77), (1, cI 2 2), (2, cI 0 7), (3, cI 0 8)], [], [((77, 41), 0, 255), ((77, 42), (-1), 7), ((77, 43), 0, 8)], [125, 891], [.inl 0, .inr (.inl 3, true), .inl 0])])]) (spl := []) (K := [0, 1, 2]) (N := 33) (sums := [S140, S118, S652, S112, S149, S648, S616]) aiX9_laysSeen (abX9_laysSeen w0) (by decide) (List.forall_mem_cons.mpr ⟨sum_up q140 3, List.forall_mem_cons.mpr ⟨sum_up q118 2, List.forall_mem_cons.mpr ⟨sum_up q652 2, List.forall_mem_cons.mpr ⟨sum_up q112 3, List.forall_mem_cons.mpr ⟨sum_up q149 0, List.forall_mem_cons.mpr ⟨sum_up q648 2, List.forall_mem_cons.mpr ⟨sum_up q616 3, fun _ h => absurd h List.not_mem_nil⟩⟩⟩⟩⟩⟩⟩) (by decide +kernel)
noncomputable def S654 : Sum1 := (280, [cR 77, cI 3 3], [], [953], [], [([cR 77, cI 3 3], [((79, 3), 1, 60)], [], some (.inl (cI 0 0))), ([cR 77, cI 3 3], [], [], some (.inl (cI 1 1)))])
theorem q654 : sum_g w0 (pm_Rt pm_P 2) S654 := soq3
noncomputable def S655 : Sum1 := (297, [cR 77, cI 3 3, cI 0 7], [], [125, 953], [(77, 22, 23), (77, 27, 27), (77, 41, 43), (89, 0, 7), (90, 0, 9), (91, 0, 7), (102, 8, 71)], [([cR 77, cI 3 3, cI 0 7], [((77, 43), 0, 8)], [], none)])
theorem q655 : sum_g w0 (pm_Rt pm_P 5) S655 := meth_okB (d := 4) (cuts := [(7, [([(0, cR 77), (1, cI 3 3), (2, cI 0 7), (3, cI 1 9)], [], [((77, 41), 0, 255)], [125, 953], [.inl 1, .inr (.inl 3, true), .inl 1])]), (63, [([(0, cR 77), (1, cI 3 3), (2, cI 0 7), (3, cI 1 8), (4, cI 0 8)], [], [((77, 22), 0, 3), ((77, 23), 0, 255), ((77, 41), 0, 255), ((84, 0), 1, 8)], [125, 953], [.inl 1, .inr (.inl 3, true), .inl 0, .inr (.inl 4, true), .inl 0])]), (121, [([(0, cR 77), (1, cI 3 3), (2, cI 0 7), (3, cI 0 8)], [], [((77, 41), 0, 255), ((77, 42), (-1), 7), ((77, 43), 0, 8)], [125, 953], [.inl 0, .inr (.inl 3, true), .inl 0])])]) (spl := []) (K := [0, 1, 2]) (N := 33) (sums := [S140, S118, S654, S112, S149, S648, S616]) aiX9_laysSeen (abX9_laysSeen w0) (by decide) (List.forall_mem_cons.mpr ⟨sum_up q140 3, List.forall_mem_cons.mpr ⟨sum_up q118 2, List.forall_mem_cons.mpr ⟨sum_up q654 2, List.forall_mem_cons.mpr ⟨sum_up q112 3, List.forall_mem_cons.mpr ⟨sum_up q149 0, List.forall_mem_cons.mpr ⟨sum_up q648 2, List.forall_mem_cons.mpr ⟨sum_up q616 3, fun _ h => absurd h List.not_mem_nil⟩⟩⟩⟩⟩⟩⟩) (by decide +kernel)
noncomputable def S656 : Sum1 := (250, [cR 77, cI (-2147483648) 2147483647, cI (-2147483648) 2147483647], [], [125], [(77, 0, 0), (77, 22, 23), (77, 27, 27), (77, 41, 43), (89, 0, 7), (90, 0, 9), (91, 0, 7), (102, 8, 71)], [([cR 77, cI (-2147483648) 2147483647, cI (-2147483648) 2147483647], [], [], some (.inl (cI (-6) 255)))])
theorem q656 : sum_g w0 (pm_Rt pm_P 6) S656 := meth_okB (d := 5) (cuts := []) (spl := []) (K := [0, 1, 2]) (N := 21) (sums := [S649, S651, S653, S655, S114, S639, S643]) aiX9_fits (abX9_fits w0) (by decide) (List.forall_mem_cons.mpr ⟨sum_up q649 0, List.forall_mem_cons.mpr ⟨sum_up q651 0, List.forall_mem_cons.mpr ⟨sum_up q653 0, List.forall_mem_cons.mpr ⟨sum_up q655 0, List.forall_mem_cons.mpr ⟨sum_up q114 3, List.forall_mem_cons.mpr ⟨sum_up q639 2, List.forall_mem_cons.mpr ⟨sum_up q643 2, fun _ h => absurd h List.not_mem_nil⟩⟩⟩⟩⟩⟩⟩) (by decide +kernel)
noncomputable def S657 : Sum1 := (23, [cI 0 255, cI 1 8], [], [], [], [([cI 0 255, cI 1 8], [], [], some (.inl (cI 1 1))), ([cI 0 255, cI 1 8], [], [], some (.inl (cI 0 0)))])
theorem q657 : sum_g w0 (pm_Rt pm_P 1) S657 := meth_okB (d := 0) (cuts := []) (spl := []) (K := [0, 1]) (N := 12) (sums := []) aiX1_isFree (abX1_isFree w0) (by decide) (fun _ h => absurd h List.not_mem_nil) (by decide +kernel)
noncomputable def S658 : Sum1 := (141, [cR 0, cI 0 255, cI 0 7, cI 1 8], [], [], [], [([cR 0, cI 0 255, cI 0 7, cI 1 8], [], [], some (.inl (cI (-2147483648) 2147483647)))])
theorem q658 : sum_g w0 (pm_Rt pm_P 2) S658 := meth_okB (d := 1) (cuts := [(21, [([(0, cR 0), (1, cI 0 255), (2, cI 0 7), (3, cI 1 8), (4, cI (-2147483648) 2147483647), (5, cI 0 9), (6, cI 1 9)], [], [], [], [.inl 0, .inr (.inl 6, true), .inl 0])])]) (spl := []) (K := [0, 1, 2, 3]) (N := 25) (sums := [S657]) aiX8_likeWishes (abX8_likeWishes w0) (by decide) (List.forall_mem_cons.mpr ⟨sum_up q657 0, fun _ h => absurd h List.not_mem_nil⟩) (by decide +kernel)
noncomputable def S659 : Sum1 := (10, [cI 0 2147483647, cI (-2147483648) 2147483647], [], [], [], [([cI 0 2147483647, cI (-2147483648) 2147483647], [], [], some (.inl (cI 0 2147483647)))])
theorem q659 : sum_g w0 (pm_Rt pm_P 1) S659 := meth_okB (d := 0) (cuts := []) (spl := []) (K := [0, 1]) (N := 7) (sums := []) aiJ9_max_7cf53 (abJ9_max_7cf53 w0) (by decide) (fun _ h => absurd h List.not_mem_nil) (by decide +kernel)
noncomputable def S660 : Sum1 := (140, [cR 0, cI 0 255, cI 0 7], [], [], [], [([cR 0, cI 0 255, cI 0 7], [], [], some (.inl (cI 0 2147483647)))])
theorem q660 : sum_g w0 (pm_Rt pm_P 3) S660 := meth_okB (d := 2) (cuts := [(5, [([(0, cR 0), (1, cI 0 255), (2, cI 0 7), (3, cI 0 2147483647), (4, cI 1 9)], [], [], [], [.inl 0, .inr (.inl 4, true), .inl 0])])]) (spl := []) (K := [0, 1, 2]) (N := 20) (sums := [S657, S658, S659]) aiX8_leftAtWorst (abX8_leftAtWorst w0) (by decide) (List.forall_mem_cons.mpr ⟨sum_up q657 1, List.forall_mem_cons.mpr ⟨sum_up q658 0, List.forall_mem_cons.mpr ⟨sum_up q659 1, fun _ h => absurd h List.not_mem_nil⟩⟩⟩) (by decide +kernel)
noncomputable def S661 : Sum1 := (80, [cR 0, cI (-2147483648) 2147483647, cI (-2147483648) 2147483647], [], [], [(62, 1, 3), (63, 0, 7), (75, 0, 7), (76, 0, 63)], [([cR 0, cI (-2147483648) 2147483647, cI (-2147483648) 2147483647], [], [], some (.inl (cI (-6) 7)))])
theorem q661 : sum_g w0 (pm_Rt pm_P 7) S661 := meth_okB (d := 6) (cuts := [(43, [([(0, cR 0), (1, cI 0 3), (2, cI 0 7), (3, cI 0 0), (4, cI 0 255), (5, cI 0 8), (6, cI (-1) 7), (7, cI 0 8)], [], [((15, 4), 1, 8)], [], [.inl 0, .inr (.inl 7, true), .inl 0])])]) (spl := []) (K := [0, 1, 2]) (N := 25) (sums := [S631, S633, S635, S637, S607, S660, S109, S628, S629]) aiX8_ask (abX8_ask w0) (by decide) (List.forall_mem_cons.mpr ⟨sum_up q631 0, List.forall_mem_cons.mpr ⟨sum_up q633 0, List.forall_mem_cons.mpr ⟨sum_up q635 0, List.forall_mem_cons.mpr ⟨sum_up q637 0, List.forall_mem_cons.mpr ⟨sum_up q607 5, List.forall_mem_cons.mpr ⟨sum_up q660 3, List.forall_mem_cons.mpr ⟨sum_up q109 5, List.forall_mem_cons.mpr ⟨sum_up q628 4, List.forall_mem_cons.mpr ⟨sum_up q629 4, fun _ h => absurd h List.not_mem_nil⟩⟩⟩⟩⟩⟩⟩⟩⟩) (by decide +kernel)
noncomputable def S662 : Sum1 := (209, [cR 77, cI (-2147483648) 2147483647, cI (-2147483648) 2147483647], [], [125], [(77, 0, 0), (77, 22, 23), (77, 27, 27), (77, 41, 43), (89, 0, 7), (90, 0, 9), (91, 0, 7), (102, 8, 71)], [([cR 77, cI (-2147483648) 2147483647, cI (-2147483648) 2147483647], [], [], some (.inl (cI (-6) 7)))])
theorem q662 : sum_g w0 (pm_Rt pm_P 6) S662 := meth_okB (d := 5) (cuts := []) (spl := []) (K := [0, 1, 2]) (N := 21) (sums := [S649, S651, S653, S655, S114, S639, S643]) aiX9_ask (abX9_ask w0) (by decide) (List.forall_mem_cons.mpr ⟨sum_up q649 0, List.forall_mem_cons.mpr ⟨sum_up q651 0, List.forall_mem_cons.mpr ⟨sum_up q653 0, List.forall_mem_cons.mpr ⟨sum_up q655 0, List.forall_mem_cons.mpr ⟨sum_up q114 3, List.forall_mem_cons.mpr ⟨sum_up q639 2, List.forall_mem_cons.mpr ⟨sum_up q643 2, fun _ h => absurd h List.not_mem_nil⟩⟩⟩⟩⟩⟩⟩) (by decide +kernel)
noncomputable def S663 : Sum1 := (11, [cI 0 8, cI 0 2147483647], [], [], [], [([cI 0 8, cI 0 2147483647], [], [], some (.inl (cI 0 8)))])
theorem q663 : sum_g w0 (pm_Rt pm_P 1) S663 := meth_okB (d := 0) (cuts := []) (spl := []) (K := [0, 1]) (N := 7) (sums := []) aiJ9_min_7cf53 (abJ9_min_7cf53 w0) (by decide) (fun _ h => absurd h List.not_mem_nil) (by decide +kernel)
noncomputable def S664 : Sum1 := (168, [cR 0, cI (-2147483648) 2147483647, cI (-2147483648) 2147483647], [], [], [(62, 1, 3), (63, 0, 7), (75, 0, 7), (76, 0, 63)], [([cR 0, cI (-2147483648) 2147483647, cI (-2147483648) 2147483647], [], [], some (.inl (cI (-6) 8)))])
theorem q664 : sum_g w0 (pm_Rt pm_P 7) S664 := meth_okB (d := 6) (cuts := [(40, [([(0, cR 0), (1, cI 0 3), (2, cI 0 7), (3, cI 0 0), (4, cI 0 255), (5, cI 0 8), (6, cI 0 8)], [], [((15, 4), 1, 8)], [], [.inl 0, .inr (.inl 6, true), .inl 0])])]) (spl := []) (K := [0, 1, 2]) (N := 23) (sums := [S631, S633, S635, S637, S607, S660, S663, S109, S628, S629]) aiX8_remain (abX8_remain w0) (by decide) (List.forall_mem_cons.mpr ⟨sum_up q631 0, List.forall_mem_cons.mpr ⟨sum_up q633 0, List.forall_mem_cons.mpr ⟨sum_up q635 0, List.forall_mem_cons.mpr ⟨sum_up q637 0, List.forall_mem_cons.mpr ⟨sum_up q607 5, List.forall_mem_cons.mpr ⟨sum_up q660 3, List.forall_mem_cons.mpr ⟨sum_up q663 5, List.forall_mem_cons.mpr ⟨sum_up q109 5, List.forall_mem_cons.mpr ⟨sum_up q628 4, List.forall_mem_cons.mpr ⟨sum_up q629 4, fun _ h => absurd h List.not_mem_nil⟩⟩⟩⟩⟩⟩⟩⟩⟩⟩) (by decide +kernel)
noncomputable def S665 : Sum1 := (333, [cR 77, cI (-2147483648) 2147483647, cI (-2147483648) 2147483647], [], [125], [(77, 0, 0), (77, 22, 23), (77, 27, 27), (77, 41, 43), (89, 0, 7), (90, 0, 9), (91, 0, 7), (102, 8, 71)], [([cR 77, cI (-2147483648) 2147483647, cI (-2147483648) 2147483647], [], [], some (.inl (cI (-6) 8)))])
theorem q665 : sum_g w0 (pm_Rt pm_P 6) S665 := meth_okB (d := 5) (cuts := []) (spl := []) (K := [0, 1, 2]) (N := 21) (sums := [S649, S651, S653, S655, S114, S639, S643]) aiX9_remain (abX9_remain w0) (by decide) (List.forall_mem_cons.mpr ⟨sum_up q649 0, List.forall_mem_cons.mpr ⟨sum_up q651 0, List.forall_mem_cons.mpr ⟨sum_up q653 0, List.forall_mem_cons.mpr ⟨sum_up q655 0, List.forall_mem_cons.mpr ⟨sum_up q114 3, List.forall_mem_cons.mpr ⟨sum_up q639 2, List.forall_mem_cons.mpr ⟨sum_up q643 2, fun _ h => absurd h List.not_mem_nil⟩⟩⟩⟩⟩⟩⟩) (by decide +kernel)
noncomputable def S666 : Sum1 := (153, [cR 0, cR 17, cI 0 3], [], [], [(62, 1, 3), (63, 0, 7)], [([cR 0, cR 17, cI 0 3], [], [], none)])
theorem q666 : sum_g w0 (pm_Rt pm_P 5) S666 := meth_okB (d := 4) (cuts := []) (spl := []) (K := [0, 1, 2]) (N := 15) (sums := [S120, S136]) aiX8_park (abX8_park w0) (by decide) (List.forall_mem_cons.mpr ⟨sum_up q120 3, List.forall_mem_cons.mpr ⟨sum_up q136 0, fun _ h => absurd h List.not_mem_nil⟩⟩) (by decide +kernel)
noncomputable def S667 : Sum1 := (138, [cR 0, cI (-2147483648) 2147483647], [], [], [(62, 1, 3), (63, 0, 7)], [([cR 0, cI (-2147483648) 2147483647], [], [], some (.inl (cI (-6) 255)))])
theorem q667 : sum_g w0 (pm_Rt pm_P 6) S667 := meth_okB (d := 5) (cuts := [(21, [([(1, cI 0 0), (0, cR 0), (2, cI 0 0), (3, cI 0 255), (4, cI 0 4)], [], [((15, 0), 1, 8), ((54, 1), 1, 1)], [271], [.inl 0, .inr (.inl 4, true), .inl 0]), ([(1, cI 1 1), (0, cR 0), (2, cI 0 0), (3, cI 0 255), (4, cI 0 4)], [], [((15, 0), 1, 8), ((56, 1), 1, 1)], [333], [.inl 1, .inr (.inl 4, true), .inl 0]), ([(1, cI 2 2), (0, cR 0), (2, cI 0 0), (3, cI 0 255), (4, cI 0 4)], [], [((15, 0), 1, 8), ((58, 1), 1, 1)], [395], [.inl 2, .inr (.inl 4, true), .inl 0]), ([(1, cI 3 3), (0, cR 0), (2, cI 0 0), (3, cI 0 255), (4, cI 0 4)], [], [((15, 0), 1, 8), ((60, 1), 1, 1)], [457], [.inl 3, .inr (.inl 4, true), .inl 0])])]) (spl := []) (K := [0, 1]) (N := 25) (sums := [S158, S630, S632, S634, S636, S666, S628, S629]) aiX8_laws (abX8_laws w0) (by decide) (List.forall_mem_cons.mpr ⟨sum_up q158 4, List.forall_mem_cons.mpr ⟨sum_up q630 4, List.forall_mem_cons.mpr ⟨sum_up q632 4, List.forall_mem_cons.mpr ⟨sum_up q634 4, List.forall_mem_cons.mpr ⟨sum_up q636 4, List.forall_mem_cons.mpr ⟨sum_up q666 0, List.forall_mem_cons.mpr ⟨sum_up q628 3, List.forall_mem_cons.mpr ⟨sum_up q629 3, fun _ h => absurd h List.not_mem_nil⟩⟩⟩⟩⟩⟩⟩⟩) (by decide +kernel)
noncomputable def S668 : Sum1 := (321, [cR 77, cI 0 3], [], [125], [(77, 22, 23), (77, 27, 27), (89, 0, 7), (90, 0, 9), (91, 0, 7)], [([cR 77, cI 0 3], [((77, 23), 0, 255)], [], none)])
theorem q668 : sum_g w0 (pm_Rt pm_P 5) S668 := meth_okB (d := 4) (cuts := []) (spl := []) (K := [0, 1]) (N := 7) (sums := [S118, S149]) aiX9_parksBy (abX9_parksBy w0) (by decide) (List.forall_mem_cons.mpr ⟨sum_up q118 2, List.forall_mem_cons.mpr ⟨sum_up q149 0, fun _ h => absurd h List.not_mem_nil⟩⟩) (by decide +kernel)
noncomputable def S669 : Sum1 := (292, [cR 77, cI (-2147483648) 2147483647], [], [125], [(77, 0, 0), (77, 22, 23), (77, 27, 27), (89, 0, 7), (90, 0, 9), (91, 0, 7)], [([cR 77, cI (-2147483648) 2147483647], [], [], some (.inl (cI (-6) 255)))])
theorem q669 : sum_g w0 (pm_Rt pm_P 6) S669 := meth_okB (d := 5) (cuts := [(23, [([(1, cI 0 0), (0, cR 77), (2, cI 0 0), (3, cI 0 255), (4, cI 0 4)], [], [((77, 0), 0, 0), ((78, 0), 0, 3), ((83, 0), 1, 2147483647)], [125, 767], [.inl 0, .inr (.inl 4, true), .inl 0]), ([(1, cI 1 1), (0, cR 77), (2, cI 0 0), (3, cI 0 255), (4, cI 0 4)], [], [((77, 0), 0, 0), ((78, 1), 0, 3), ((83, 0), 1, 2147483647)], [125, 829], [.inl 1, .inr (.inl 4, true), .inl 0]), ([(1, cI 2 2), (0, cR 77), (2, cI 0 0), (3, cI 0 255), (4, cI 0 4)], [], [((77, 0), 0, 0), ((78, 2), 0, 3), ((83, 0), 1, 2147483647)], [125, 891], [.inl 2, .inr (.inl 4, true), .inl 0]), ([(1, cI 3 3), (0, cR 77), (2, cI 0 0), (3, cI 0 255), (4, cI 0 4)], [], [((77, 0), 0, 0), ((78, 3), 0, 3), ((83, 0), 1, 2147483647)], [125, 953], [.inl 3, .inr (.inl 4, true), .inl 0])])]) (spl := []) (K := [0, 1]) (N := 20) (sums := [S645, S650, S652, S654, S668, S643]) aiX9_laws (abX9_laws w0) (by decide) (List.forall_mem_cons.mpr ⟨sum_up q645 3, List.forall_mem_cons.mpr ⟨sum_up q650 3, List.forall_mem_cons.mpr ⟨sum_up q652 3, List.forall_mem_cons.mpr ⟨sum_up q654 3, List.forall_mem_cons.mpr ⟨sum_up q668 0, List.forall_mem_cons.mpr ⟨sum_up q643 2, fun _ h => absurd h List.not_mem_nil⟩⟩⟩⟩⟩⟩) (by decide +kernel)
noncomputable def S670 : Sum1 := (88, [cR 0, cI (-2147483648) 2147483647], [], [], [(62, 1, 3), (63, 0, 7)], [([cR 0, cI (-2147483648) 2147483647], [], [], some (.inl (cI (-2147483648) 2147483647)))])
theorem q670 : sum_g w0 (pm_Rt pm_P 6) S670 := meth_okB (d := 5) (cuts := []) (spl := []) (K := [0, 1]) (N := 19) (sums := [S158, S666]) aiX8_by (abX8_by w0) (by decide) (List.forall_mem_cons.mpr ⟨sum_up q158 4, List.forall_mem_cons.mpr ⟨sum_up q666 0, fun _ h => absurd h List.not_mem_nil⟩⟩) (by decide +kernel)
noncomputable def S671 : Sum1 := (221, [cR 77, cI (-2147483648) 2147483647], [], [125], [(77, 0, 0), (77, 22, 23), (77, 27, 27), (89, 0, 7), (90, 0, 9), (91, 0, 7)], [([cR 77, cI (-2147483648) 2147483647], [], [], some (.inl (cI (-2147483648) 2147483647)))])
theorem q671 : sum_g w0 (pm_Rt pm_P 6) S671 := meth_okB (d := 5) (cuts := []) (spl := []) (K := [0, 1]) (N := 19) (sums := [S160, S172, S668, S485]) aiX9_by (abX9_by w0) (by decide) (List.forall_mem_cons.mpr ⟨sum_up q160 4, List.forall_mem_cons.mpr ⟨sum_up q172 2, List.forall_mem_cons.mpr ⟨sum_up q668 0, List.forall_mem_cons.mpr ⟨sum_up q485 4, fun _ h => absurd h List.not_mem_nil⟩⟩⟩⟩) (by decide +kernel)
noncomputable def S672 : Sum1 := (25, [cI 1 3, cI 0 8, cI 0 511, cI 0 8], [], [], [], [([cI 1 3, cI 0 8, cI 0 511, cI 0 8], [], [], some (.inl (cI 0 0))), ([cI 1 3, cI 0 8, cI 0 511, cI 0 8], [], [], some (.inl (cI 0 8)))])
theorem q672 : sum_g w0 (pm_Rt pm_P 3) S672 := meth_okB (d := 2) (cuts := []) (spl := []) (K := [0, 1, 2, 3]) (N := 34) (sums := [S122, S121, S130, S126, S124, S128, S129]) aiX1_spotFor (abX1_spotFor w0) (by decide) (List.forall_mem_cons.mpr ⟨sum_up q122 1, List.forall_mem_cons.mpr ⟨sum_up q121 1, List.forall_mem_cons.mpr ⟨sum_up q130 0, List.forall_mem_cons.mpr ⟨sum_up q126 0, List.forall_mem_cons.mpr ⟨sum_up q124 0, List.forall_mem_cons.mpr ⟨sum_up q128 0, List.forall_mem_cons.mpr ⟨sum_up q129 0, fun _ h => absurd h List.not_mem_nil⟩⟩⟩⟩⟩⟩⟩) (by decide +kernel)
noncomputable def S673 : Sum1 := (20, [cR 62, cR 17, cI 0 8, cI 0 255, cI 0 8, cI 1 3], [], [], [(62, 1, 3), (63, 0, 7)], [([cR 62, cR 17, cI 0 8, cI 0 255, cI 0 8, cI 1 3], [], [], none)])
theorem q673 : sum_g w0 (pm_Rt pm_P 4) S673 := meth_okB (d := 3) (cuts := [(18, [([(0, cR 62), (1, cR 17), (2, cI 0 8), (3, cI 0 255), (4, cI 0 8), (5, cI 1 3), (6, cI 0 8)], [], [], [], [.inl 0, .inr (.inl 6, true), .inl 0])])]) (spl := []) (K := [0, 1, 2, 3, 4, 5]) (N := 31) (sums := [S135, S134, S672]) aiX1_fill (abX1_fill w0) (by decide) (List.forall_mem_cons.mpr ⟨sum_up q135 2, List.forall_mem_cons.mpr ⟨sum_up q134 1, List.forall_mem_cons.mpr ⟨sum_up q672 0, fun _ h => absurd h List.not_mem_nil⟩⟩⟩) (by decide +kernel)
noncomputable def S674 : Sum1 := (153, [cR 0, cR 17, cI 1 3], [], [], [(62, 1, 3), (63, 0, 7)], [([cR 0, cR 17, cI 1 3], [], [], none)])
theorem q674 : sum_g w0 (pm_Rt pm_P 5) S674 := meth_okB (d := 4) (cuts := []) (spl := []) (K := [0, 1, 2]) (N := 15) (sums := [S120, S673]) aiX8_park (abX8_park w0) (by decide) (List.forall_mem_cons.mpr ⟨sum_up q120 3, List.forall_mem_cons.mpr ⟨sum_up q673 0, fun _ h => absurd h List.not_mem_nil⟩⟩) (by decide +kernel)
noncomputable def S675 : Sum1 := (135, [cR 0], [], [], [(62, 1, 3), (63, 0, 7)], [([cR 0], [], [], some (.inl (cI (-2) 3)))])
theorem q675 : sum_g w0 (pm_Rt pm_P 6) S675 := meth_okB (d := 5) (cuts := [(46, [([(0, cR 0), (1, cI 0 3), (2, cI 0 8), (3, cI (-2147483648) 2147483647), (4, cI 1 4)], [], [((15, 0), 1, 8), ((62, 2), 0, 255)], [], [.inl 0, .inr (.inl 4, true), .inl 0])])]) (spl := []) (K := [0]) (N := 36) (sums := [S158, S261, S674, S607]) aiX8_law (abX8_law w0) (by decide) (List.forall_mem_cons.mpr ⟨sum_up q158 4, List.forall_mem_cons.mpr ⟨sum_up q261 0, List.forall_mem_cons.mpr ⟨sum_up q674 0, List.forall_mem_cons.mpr ⟨sum_up q607 4, fun _ h => absurd h List.not_mem_nil⟩⟩⟩⟩) (by decide +kernel)
noncomputable def S676 : Sum1 := (290, [cR 77], [], [125], [(77, 0, 0), (77, 22, 23), (77, 27, 27), (89, 0, 7), (90, 0, 9), (91, 0, 7)], [([cR 77], [], [], some (.inl (cI (-2) 3)))])
theorem q676 : sum_g w0 (pm_Rt pm_P 6) S676 := meth_okB (d := 5) (cuts := [(22, [([(0, cR 77), (1, cI (-1) 3), (2, cI (-2147483648) 1000000), (3, cI 0 4)], [], [((77, 0), 0, 0), ((83, 0), 1, 2147483647)], [125], [.inl 0, .inr (.inl 3, true), .inl 0])])]) (spl := []) (K := [0]) (N := 25) (sums := [S160, S172, S668, S616]) aiX9_law (abX9_law w0) (by decide) (List.forall_mem_cons.mpr ⟨sum_up q160 4, List.forall_mem_cons.mpr ⟨sum_up q172 2, List.forall_mem_cons.mpr ⟨sum_up q668 0, List.forall_mem_cons.mpr ⟨sum_up q616 4, fun _ h => absurd h List.not_mem_nil⟩⟩⟩⟩) (by decide +kernel)
noncomputable def S677 : Sum1 := (202, [cR 0, cI (-2147483648) 2147483647], [], [], [(62, 1, 3), (63, 0, 7)], [([cR 0, cI (-2147483648) 2147483647], [], [], some (.inl (cI (-2147483648) 2147483647)))])
theorem q677 : sum_g w0 (pm_Rt pm_P 6) S677 := meth_okB (d := 5) (cuts := []) (spl := []) (K := [0, 1]) (N := 17) (sums := [S158, S120, S625]) aiX8_worth (abX8_worth w0) (by decide) (List.forall_mem_cons.mpr ⟨sum_up q158 4, List.forall_mem_cons.mpr ⟨sum_up q120 4, List.forall_mem_cons.mpr ⟨sum_up q625 0, fun _ h => absurd h List.not_mem_nil⟩⟩⟩) (by decide +kernel)
noncomputable def S678 : Sum1 := (261, [cL (-2147483648) 2147483647, cL 0 0, cL 0 255], [], [], [], [([cL (-2147483648) 2147483647, cL 0 0, cL 0 255], [], [], some (.inl (cI 0 0))), ([cL 0 255, cL 0 0, cL 0 255], [], [], some (.inl (cI 1 1)))])
theorem q678 : sum_g w0 (pm_Rt pm_P 1) S678 := meth_okB (d := 0) (cuts := []) (spl := []) (K := [0, 2, 4]) (N := 12) (sums := []) aiX9_in (abX9_in w0) (by decide) (fun _ h => absurd h List.not_mem_nil) (by decide +kernel)
noncomputable def S679 : Sum1 := (379, [cR 77, cI 0 255], [], [125], [(77, 22, 23), (77, 27, 27), (89, 0, 7), (90, 0, 9), (91, 0, 7)], [([cR 77, cI 0 255], [((77, 23), 0, 255)], [], some (.inl (cI (-2147483648) 2147483647)))])
theorem q679 : sum_g w0 (pm_Rt pm_P 5) S679 := meth_okB (d := 4) (cuts := []) (spl := []) (K := [0, 1]) (N := 13) (sums := [S118, S172, S149]) aiX9_worthOf (abX9_worthOf w0) (by decide) (List.forall_mem_cons.mpr ⟨sum_up q118 2, List.forall_mem_cons.mpr ⟨sum_up q172 1, List.forall_mem_cons.mpr ⟨sum_up q149 0, fun _ h => absurd h List.not_mem_nil⟩⟩⟩) (by decide +kernel)
noncomputable def S680 : Sum1 := (378, [cR 77, cI (-2147483648) 2147483647], [], [125], [(77, 0, 0), (77, 22, 23), (77, 27, 27), (89, 0, 7), (90, 0, 9), (91, 0, 7)], [([cR 77, cI (-2147483648) 2147483647], [], [], some (.inl (cI (-2147483648) 2147483647)))])
theorem q680 : sum_g w0 (pm_Rt pm_P 6) S680 := meth_okB (d := 5) (cuts := []) (spl := []) (K := [0, 1]) (N := 24) (sums := [S160, S112, S679, S678]) aiX9_worth (abX9_worth w0) (by decide) (List.forall_mem_cons.mpr ⟨sum_up q160 4, List.forall_mem_cons.mpr ⟨sum_up q112 4, List.forall_mem_cons.mpr ⟨sum_up q679 0, List.forall_mem_cons.mpr ⟨sum_up q678 4, fun _ h => absurd h List.not_mem_nil⟩⟩⟩⟩) (by decide +kernel)
noncomputable def S682 : Sum1 := (42, [cR 72, cR 17, cI 8 8, cI 0 8, cI 0 3], [], [], [(73, 0, 255), (74, 0, 255)], [([cR 72, cR 17, cI 8 8, cI 0 8, cI 0 3], [((73, 0), 0, 0), ((74, 0), 0, 0)], [], none)])
theorem q682 : sum_g w0 (pm_Rt pm_P 4) S682 := meth_okB (d := 3) (cuts := [(17, [([(0, cR 72), (1, cR 17), (2, cI 8 8), (3, cI 0 8), (4, cI 0 3), (5, cI 0 8)], [], [((73, 0), 0, 0), ((74, 0), 0, 0)], [], [.inl 0, .inr (.inl 5, true), .inl 1])]), (26, [([(0, cR 72), (1, cR 17), (2, cI 8 8), (3, cI 0 8), (4, cI 0 3), (5, cI 0 7), (6, cI 0 128)], [], [((73, 0), 0, 0), ((74, 0), 0, 0)], [], [.inl 0, .inr (.inl 5, true), .inl 0, .inr (.inl 6, true), .inl 0])])]) (spl := []) (K := [0, 1, 2, 3, 4]) (N := 55) (sums := [S132, S133, S131]) aiX3_fill (abX3_fill w0) (by decide) (List.forall_mem_cons.mpr ⟨sum_up q132 2, List.forall_mem_cons.mpr ⟨sum_up q133 2, List.forall_mem_cons.mpr ⟨sum_up q131 0, fun _ h => absurd h List.not_mem_nil⟩⟩⟩) (by decide +kernel)
noncomputable def S684 : Sum1 := (42, [cR 72, cR 17, cI 7 7, cI 0 8, cI 0 3], [], [], [(73, 0, 127), (74, 0, 127)], [([cR 72, cR 17, cI 7 7, cI 0 8, cI 0 3], [((73, 0), 0, 0), ((74, 0), 0, 0)], [], none)])
theorem q684 : sum_g w0 (pm_Rt pm_P 4) S684 := meth_okB (d := 3) (cuts := [(17, [([(0, cR 72), (1, cR 17), (2, cI 7 7), (3, cI 0 8), (4, cI 0 3), (5, cI 0 7)], [], [((73, 0), 0, 0), ((74, 0), 0, 0)], [], [.inl 0, .inr (.inl 5, true), .inl 1])]), (26, [([(0, cR 72), (1, cR 17), (2, cI 7 7), (3, cI 0 8), (4, cI 0 3), (5, cI 0 6), (6, cI 0 64)], [], [((73, 0), 0, 0), ((74, 0), 0, 0)], [], [.inl 0, .inr (.inl 5, true), .inl 0, .inr (.inl 6, true), .inl 0])])]) (spl := []) (K := [0, 1, 2, 3, 4]) (N := 55) (sums := [S132, S133, S131]) aiX3_fill (abX3_fill w0) (by decide) (List.forall_mem_cons.mpr ⟨sum_up q132 2, List.forall_mem_cons.mpr ⟨sum_up q133 2, List.forall_mem_cons.mpr ⟨sum_up q131 0, fun _ h => absurd h List.not_mem_nil⟩⟩⟩) (by decide +kernel)
noncomputable def S686 : Sum1 := (42, [cR 72, cR 17, cI 6 6, cI 0 8, cI 0 3], [], [], [(73, 0, 63), (74, 0, 63)], [([cR 72, cR 17, cI 6 6, cI 0 8, cI 0 3], [((73, 0), 0, 0), ((74, 0), 0, 0)], [], none)])
theorem q686 : sum_g w0 (pm_Rt pm_P 4) S686 := meth_okB (d := 3) (cuts := [(17, [([(0, cR 72), (1, cR 17), (2, cI 6 6), (3, cI 0 8), (4, cI 0 3), (5, cI 0 6)], [], [((73, 0), 0, 0), ((74, 0), 0, 0)], [], [.inl 0, .inr (.inl 5, true), .inl 1])]), (26, [([(0, cR 72), (1, cR 17), (2, cI 6 6), (3, cI 0 8), (4, cI 0 3), (5, cI 0 5), (6, cI 0 32)], [], [((73, 0), 0, 0), ((74, 0), 0, 0)], [], [.inl 0, .inr (.inl 5, true), .inl 0, .inr (.inl 6, true), .inl 0])])]) (spl := []) (K := [0, 1, 2, 3, 4]) (N := 55) (sums := [S132, S133, S131]) aiX3_fill (abX3_fill w0) (by decide) (List.forall_mem_cons.mpr ⟨sum_up q132 2, List.forall_mem_cons.mpr ⟨sum_up q133 2, List.forall_mem_cons.mpr ⟨sum_up q131 0, fun _ h => absurd h List.not_mem_nil⟩⟩⟩) (by decide +kernel)
noncomputable def S688 : Sum1 := (42, [cR 72, cR 17, cI 5 5, cI 0 8, cI 0 3], [], [], [(73, 0, 31), (74, 0, 31)], [([cR 72, cR 17, cI 5 5, cI 0 8, cI 0 3], [((73, 0), 0, 0), ((74, 0), 0, 0)], [], none)])
theorem q688 : sum_g w0 (pm_Rt pm_P 4) S688 := meth_okB (d := 3) (cuts := [(17, [([(0, cR 72), (1, cR 17), (2, cI 5 5), (3, cI 0 8), (4, cI 0 3), (5, cI 0 5)], [], [((73, 0), 0, 0), ((74, 0), 0, 0)], [], [.inl 0, .inr (.inl 5, true), .inl 1])]), (26, [([(0, cR 72), (1, cR 17), (2, cI 5 5), (3, cI 0 8), (4, cI 0 3), (5, cI 0 4), (6, cI 0 16)], [], [((73, 0), 0, 0), ((74, 0), 0, 0)], [], [.inl 0, .inr (.inl 5, true), .inl 0, .inr (.inl 6, true), .inl 0])])]) (spl := []) (K := [0, 1, 2, 3, 4]) (N := 55) (sums := [S132, S133, S131]) aiX3_fill (abX3_fill w0) (by decide) (List.forall_mem_cons.mpr ⟨sum_up q132 2, List.forall_mem_cons.mpr ⟨sum_up q133 2, List.forall_mem_cons.mpr ⟨sum_up q131 0, fun _ h => absurd h List.not_mem_nil⟩⟩⟩) (by decide +kernel)
noncomputable def S690 : Sum1 := (42, [cR 72, cR 17, cI 4 4, cI 0 8, cI 0 3], [], [], [(73, 0, 15), (74, 0, 15)], [([cR 72, cR 17, cI 4 4, cI 0 8, cI 0 3], [((73, 0), 0, 0), ((74, 0), 0, 0)], [], none)])
theorem q690 : sum_g w0 (pm_Rt pm_P 4) S690 := meth_okB (d := 3) (cuts := [(17, [([(0, cR 72), (1, cR 17), (2, cI 4 4), (3, cI 0 8), (4, cI 0 3), (5, cI 0 4)], [], [((73, 0), 0, 0), ((74, 0), 0, 0)], [], [.inl 0, .inr (.inl 5, true), .inl 1])]), (26, [([(0, cR 72), (1, cR 17), (2, cI 4 4), (3, cI 0 8), (4, cI 0 3), (5, cI 0 3), (6, cI 0 8)], [], [((73, 0), 0, 0), ((74, 0), 0, 0)], [], [.inl 0, .inr (.inl 5, true), .inl 0, .inr (.inl 6, true), .inl 0])])]) (spl := []) (K := [0, 1, 2, 3, 4]) (N := 55) (sums := [S132, S133, S131]) aiX3_fill (abX3_fill w0) (by decide) (List.forall_mem_cons.mpr ⟨sum_up q132 2, List.forall_mem_cons.mpr ⟨sum_up q133 2, List.forall_mem_cons.mpr ⟨sum_up q131 0, fun _ h => absurd h List.not_mem_nil⟩⟩⟩) (by decide +kernel)
noncomputable def S692 : Sum1 := (42, [cR 72, cR 17, cI 3 3, cI 0 8, cI 0 3], [], [], [(73, 0, 7), (74, 0, 7)], [([cR 72, cR 17, cI 3 3, cI 0 8, cI 0 3], [((73, 0), 0, 0), ((74, 0), 0, 0)], [], none)])
theorem q692 : sum_g w0 (pm_Rt pm_P 4) S692 := meth_okB (d := 3) (cuts := [(17, [([(0, cR 72), (1, cR 17), (2, cI 3 3), (3, cI 0 8), (4, cI 0 3), (5, cI 0 3)], [], [((73, 0), 0, 0), ((74, 0), 0, 0)], [], [.inl 0, .inr (.inl 5, true), .inl 1])]), (26, [([(0, cR 72), (1, cR 17), (2, cI 3 3), (3, cI 0 8), (4, cI 0 3), (5, cI 0 2), (6, cI 0 4)], [], [((73, 0), 0, 0), ((74, 0), 0, 0)], [], [.inl 0, .inr (.inl 5, true), .inl 0, .inr (.inl 6, true), .inl 0])])]) (spl := []) (K := [0, 1, 2, 3, 4]) (N := 55) (sums := [S132, S133, S131]) aiX3_fill (abX3_fill w0) (by decide) (List.forall_mem_cons.mpr ⟨sum_up q132 2, List.forall_mem_cons.mpr ⟨sum_up q133 2, List.forall_mem_cons.mpr ⟨sum_up q131 0, fun _ h => absurd h List.not_mem_nil⟩⟩⟩) (by decide +kernel)
noncomputable def S694 : Sum1 := (42, [cR 72, cR 17, cI 2 2, cI 0 8, cI 0 3], [], [], [(73, 0, 3), (74, 0, 3)], [([cR 72, cR 17, cI 2 2, cI 0 8, cI 0 3], [((73, 0), 0, 0), ((74, 0), 0, 0)], [], none)])
theorem q694 : sum_g w0 (pm_Rt pm_P 4) S694 := meth_okB (d := 3) (cuts := [(17, [([(0, cR 72), (1, cR 17), (2, cI 2 2), (3, cI 0 8), (4, cI 0 3), (5, cI 0 2)], [], [((73, 0), 0, 0), ((74, 0), 0, 0)], [], [.inl 0, .inr (.inl 5, true), .inl 1])]), (26, [([(0, cR 72), (1, cR 17), (2, cI 2 2), (3, cI 0 8), (4, cI 0 3), (5, cI 0 1), (6, cI 0 2)], [], [((73, 0), 0, 0), ((74, 0), 0, 0)], [], [.inl 0, .inr (.inl 5, true), .inl 0, .inr (.inl 6, true), .inl 0])])]) (spl := []) (K := [0, 1, 2, 3, 4]) (N := 55) (sums := [S132, S133, S131]) aiX3_fill (abX3_fill w0) (by decide) (List.forall_mem_cons.mpr ⟨sum_up q132 2, List.forall_mem_cons.mpr ⟨sum_up q133 2, List.forall_mem_cons.mpr ⟨sum_up q131 0, fun _ h => absurd h List.not_mem_nil⟩⟩⟩) (by decide +kernel)
noncomputable def S696 : Sum1 := (23, [cI 0 0, cI 0 8], [], [], [], [([cI 0 0, cI 0 8], [], [], some (.inl (cI 1 1))), ([cI 0 0, cI 0 8], [], [], some (.inl (cI 0 0)))])
theorem q696 : sum_g w0 (pm_Rt pm_P 1) S696 := meth_okB (d := 0) (cuts := []) (spl := []) (K := [0, 1]) (N := 12) (sums := []) aiX1_isFree (abX1_isFree w0) (by decide) (fun _ h => absurd h List.not_mem_nil) (by decide +kernel)
noncomputable def S697 : Sum1 := (23, [cI 0 0, cI 1 7], [], [], [], [([cI 0 0, cI 1 7], [], [], some (.inl (cI 1 1))), ([cI 0 0, cI 1 7], [], [], some (.inl (cI 0 0)))])
theorem q697 : sum_g w0 (pm_Rt pm_P 1) S697 := meth_okB (d := 0) (cuts := []) (spl := []) (K := [0, 1]) (N := 12) (sums := []) aiX1_isFree (abX1_isFree w0) (by decide) (fun _ h => absurd h List.not_mem_nil) (by decide +kernel)
noncomputable def S698 : Sum1 := (23, [cI 0 0, cI 3 8], [], [], [], [([cI 0 0, cI 3 8], [], [], some (.inl (cI 1 1))), ([cI 0 0, cI 3 8], [], [], some (.inl (cI 0 0)))])
theorem q698 : sum_g w0 (pm_Rt pm_P 1) S698 := meth_okB (d := 0) (cuts := []) (spl := []) (K := [0, 1]) (N := 12) (sums := []) aiX1_isFree (abX1_isFree w0) (by decide) (fun _ h => absurd h List.not_mem_nil) (by decide +kernel)
noncomputable def S699 : Sum1 := (21, [cI 0 8, cI 0 0, cI 3 9], [], [], [], [([cI 3 8, cI 0 0, cI 3 9], [], [], some (.inl (cI 3 8))), ([cI 0 8, cI 0 0, cI 3 9], [], [], some (.inl (cI 0 0)))])
theorem q699 : sum_g w0 (pm_Rt pm_P 2) S699 := meth_okB (d := 1) (cuts := [(2, [([(0, cI 0 8), (1, cI 0 0), (2, cI 3 9), (3, cI 3 9)], [], [], [], [.inl 0, .inr (.inl 3, true), .inl 0])])]) (spl := []) (K := [0, 1, 2]) (N := 10) (sums := [S698]) aiX1_firstFree (abX1_firstFree w0) (by decide) (List.forall_mem_cons.mpr ⟨sum_up q698 0, fun _ h => absurd h List.not_mem_nil⟩) (by decide +kernel)
noncomputable def S700 : Sum1 := (23, [cI 0 0, cI 1 8], [], [], [], [([cI 0 0, cI 1 8], [], [], some (.inl (cI 1 1))), ([cI 0 0, cI 1 8], [], [], some (.inl (cI 0 0)))])
theorem q700 : sum_g w0 (pm_Rt pm_P 1) S700 := meth_okB (d := 0) (cuts := []) (spl := []) (K := [0, 1]) (N := 12) (sums := []) aiX1_isFree (abX1_isFree w0) (by decide) (fun _ h => absurd h List.not_mem_nil) (by decide +kernel)
end
section
/-! what is known of the methods, checked (written by emit.py) -/
noncomputable def S701 : Sum1 := (21, [cI 0 8, cI 0 0, cI 1 2], [], [], [], [([cI 1 8, cI 0 0, cI 1 2], [], [], some (.inl (cI 1 8))), ([cI 0 8, cI 0 0, cI 1 2], [], [], some (.inl (cI 0 0)))])
theorem q701 : sum_g w0 (pm_Rt pm_P 2) S701 := meth_okB (d := 1) (cuts := [(2, [([(0, cI 0 8), (1, cI 0 0), (2, cI 1 2), (3, cI 1 9)], [], [], [], [.inl 0, .inr (.inl 3, true), .inl 0])])]) (spl := []) (K := [0, 1, 2]) (N := 10) (sums := [S700]) aiX1_firstFree (abX1_firstFree w0) (by decide) (List.forall_mem_cons.mpr ⟨sum_up q700 0, fun _ h => absurd h List.not_mem_nil⟩) (by decide +kernel)
noncomputable def S702 : Sum1 := (23, [cI 0 0, cI 1 6], [], [], [], [([cI 0 0, cI 1 6], [], [], some (.inl (cI 1 1))), ([cI 0 0, cI 1 6], [], [], some (.inl (cI 0 0)))])
theorem q702 : sum_g w0 (pm_Rt pm_P 1) S702 := meth_okB (d := 0) (cuts := []) (spl := []) (K := [0, 1]) (N := 12) (sums := []) aiX1_isFree (abX1_isFree w0) (by decide) (fun _ h => absurd h List.not_mem_nil) (by decide +kernel)
noncomputable def S703 : Sum1 := (24, [cI 0 8, cI 0 0, cI 0 8], [], [], [], [([cI 2 8, cI 0 0, cI 0 8], [], [], some (.inl (cI 1 8))), ([cI 0 8, cI 0 0, cI 0 8], [], [], some (.inl (cI 0 0)))])
theorem q703 : sum_g w0 (pm_Rt pm_P 2) S703 := meth_okB (d := 1) (cuts := [(2, [([(0, cI 0 8), (1, cI 0 0), (2, cI 0 8), (3, cI 1 8)], [], [], [], [.inl 0, .inr (.inl 3, true), .inl 0])])]) (spl := []) (K := [0, 1, 2]) (N := 30) (sums := [S702, S697, S700]) aiX1_nearestFree (abX1_nearestFree w0) (by decide) (List.forall_mem_cons.mpr ⟨sum_up q702 0, List.forall_mem_cons.mpr ⟨sum_up q697 0, List.forall_mem_cons.mpr ⟨sum_up q700 0, fun _ h => absurd h List.not_mem_nil⟩⟩⟩) (by decide +kernel)
noncomputable def S704 : Sum1 := (21, [cI 0 8, cI 0 0, cI 1 9], [], [], [], [([cI 1 8, cI 0 0, cI 1 9], [], [], some (.inl (cI 1 8))), ([cI 0 8, cI 0 0, cI 1 9], [], [], some (.inl (cI 0 0)))])
theorem q704 : sum_g w0 (pm_Rt pm_P 2) S704 := meth_okB (d := 1) (cuts := [(2, [([(0, cI 0 8), (1, cI 0 0), (2, cI 1 9), (3, cI 1 9)], [], [], [], [.inl 0, .inr (.inl 3, true), .inl 0])])]) (spl := []) (K := [0, 1, 2]) (N := 10) (sums := [S700]) aiX1_firstFree (abX1_firstFree w0) (by decide) (List.forall_mem_cons.mpr ⟨sum_up q700 0, fun _ h => absurd h List.not_mem_nil⟩) (by decide +kernel)
noncomputable def S705 : Sum1 := (23, [cI 0 0, cI 1 1], [], [], [], [([cI 0 0, cI 1 1], [], [], some (.inl (cI 1 1)))])
theorem q705 : sum_g w0 (pm_Rt pm_P 1) S705 := meth_okB (d := 0) (cuts := []) (spl := []) (K := [0, 1]) (N := 12) (sums := []) aiX1_isFree (abX1_isFree w0) (by decide) (fun _ h => absurd h List.not_mem_nil) (by decide +kernel)
noncomputable def S706 : Sum1 := (21, [cI 0 8, cI 0 0, cI 1 1], [], [], [], [([cI 1 8, cI 0 0, cI 1 1], [], [], some (.inl (cI 1 1))), ([cI 0 0, cI 0 0, cI 1 1], [], [], some (.inl (cI 0 0)))])
theorem q706 : sum_g w0 (pm_Rt pm_P 2) S706 := meth_okB (d := 1) (cuts := [(2, [([(0, cI 0 8), (1, cI 0 0), (2, cI 1 1), (3, cI 1 1)], [], [], [], [.inl 0])])]) (spl := []) (K := [0, 1, 2]) (N := 10) (sums := [S705]) aiX1_firstFree (abX1_firstFree w0) (by decide) (List.forall_mem_cons.mpr ⟨sum_up q705 0, fun _ h => absurd h List.not_mem_nil⟩) (by decide +kernel)
noncomputable def S707 : Sum1 := (25, [cI 0 3, cI 0 8, cI 0 0, cI 0 8], [], [], [], [([cI 0 3, cI 0 8, cI 0 0, cI 0 8], [], [], some (.inl (cI 0 0))), ([cI 0 3, cI 0 8, cI 0 0, cI 0 8], [], [], some (.inl (cI 0 8))), ([cI 3 3, cI 1 8, cI 0 0, cI 0 8], [], [], some (.inl (cI 1 1)))])
theorem q707 : sum_g w0 (pm_Rt pm_P 3) S707 := meth_okB (d := 2) (cuts := []) (spl := []) (K := [0, 1, 2, 3]) (N := 34) (sums := [S697, S696, S706, S701, S699, S703, S704]) aiX1_spotFor (abX1_spotFor w0) (by decide) (List.forall_mem_cons.mpr ⟨sum_up q697 1, List.forall_mem_cons.mpr ⟨sum_up q696 1, List.forall_mem_cons.mpr ⟨sum_up q706 0, List.forall_mem_cons.mpr ⟨sum_up q701 0, List.forall_mem_cons.mpr ⟨sum_up q699 0, List.forall_mem_cons.mpr ⟨sum_up q703 0, List.forall_mem_cons.mpr ⟨sum_up q704 0, fun _ h => absurd h List.not_mem_nil⟩⟩⟩⟩⟩⟩⟩) (by decide +kernel)
noncomputable def S708 : Sum1 := (160, [cI 1 1], [], [], [], [([cI 1 1], [], [], some (.inl (cI 1 1)))])
theorem q708 : sum_g w0 (pm_Rt pm_P 1) S708 := meth_okB (d := 0) (cuts := []) (spl := []) (K := [0]) (N := 7) (sums := []) aiX8_placeBit (abX8_placeBit w0) (by decide) (fun _ h => absurd h List.not_mem_nil) (by decide +kernel)
noncomputable def S709 : Sum1 := (9, [cI (-7) 1], [], [], [], [([cI (-7) 1], [], [], some (.inl (cI 0 7)))])
theorem q709 : sum_g w0 (pm_Rt pm_P 1) S709 := meth_okB (d := 0) (cuts := []) (spl := []) (K := [0]) (N := 7) (sums := []) aiJ9_abs_0f7a4 (abJ9_abs_0f7a4 w0) (by decide) (fun _ h => absurd h List.not_mem_nil) (by decide +kernel)
noncomputable def S710 : Sum1 := (42, [cR 72, cR 17, cI 1 1, cI 0 8, cI 0 3], [], [], [(73, 0, 1), (74, 0, 1)], [([cR 72, cR 17, cI 1 1, cI 0 8, cI 0 3], [((73, 0), 0, 0), ((74, 0), 0, 0)], [], none)])
theorem q710 : sum_g w0 (pm_Rt pm_P 4) S710 := meth_okB (d := 3) (cuts := [(17, [([(0, cR 72), (1, cR 17), (2, cI 1 1), (3, cI 0 8), (4, cI 0 3), (5, cI 0 1)], [], [((73, 0), 0, 0), ((74, 0), 0, 0)], [], [.inl 0, .inr (.inl 5, true), .inl 1])]), (26, [([(0, cR 72), (1, cR 17), (2, cI 1 1), (3, cI 0 8), (4, cI 0 3), (5, cI 0 0), (6, cI 0 1)], [], [((73, 0), 0, 0), ((74, 0), 0, 0)], [], [.inl 0, .inr (.inl 5, true), .inl 0, .inr (.inl 6, true), .inl 0])])]) (spl := []) (K := [0, 1, 2, 3, 4]) (N := 55) (sums := [S708, S132, S709, S133, S707]) aiX3_fill (abX3_fill w0) (by decide) (List.forall_mem_cons.mpr ⟨sum_up q708 2, List.forall_mem_cons.mpr ⟨sum_up q132 2, List.forall_mem_cons.mpr ⟨sum_up q709 2, List.forall_mem_cons.mpr ⟨sum_up q133 2, List.forall_mem_cons.mpr ⟨sum_up q707 0, fun _ h => absurd h List.not_mem_nil⟩⟩⟩⟩⟩) (by decide +kernel)
noncomputable def S714 : Sum1 := (8, [cL (-9223372036854775808) 9223372036854775807], [], [], [], [([cL (-9223372036854775808) 9223372036854775807], [], [], some (.inl (cL (-9223372036854775808) 9223372036854775807)))])
theorem q714 : sum_g w0 (pm_Rt pm_P 1) S714 := meth_okB (d := 0) (cuts := []) (spl := []) (K := [0]) (N := 9) (sums := []) aiJ9_abs_067f4 (abJ9_abs_067f4 w0) (by decide) (fun _ h => absurd h List.not_mem_nil) (by decide +kernel)
noncomputable def S715 : Sum1 := (190, [cL (-9223372036854775808) 9223372036854775807, cL 1 40320, cI 0 1], [], [], [], [([cL (-9223372036854775808) 9223372036854775807, cL 1 40320, cI 0 1], [], [], some (.inl (cL (-9223372036854775808) 9223372036854775807)))])
theorem q715 : sum_g w0 (pm_Rt pm_P 2) S715 := meth_okB (d := 1) (cuts := [(12, [([(0, cL (-9223372036854775808) 9223372036854775807), (2, cL 1 40320), (4, cI 0 1), (5, cL (-9223372036854775808) 9223372036854775807), (7, cL (-9223372036854775808) 9223372036854775807), (9, cI 0 100)], [], [], [], [.inl 0, .inr (.inl 9, true), .inl 0])])]) (spl := []) (K := [0, 2, 4]) (N := 19) (sums := [S714]) aiX8_term (abX8_term w0) (by decide) (List.forall_mem_cons.mpr ⟨sum_up q714 0, fun _ h => absurd h List.not_mem_nil⟩) (by decide +kernel)
noncomputable def S730 : Sum1 := (177, [cR 0, cI (-2147483648) 2147483647, cI (-2147483648) 2147483647], [], [], [(73, 0, 255), (74, 0, 255)], [([cR 0, cI (-2147483648) 2147483647, cI (-2147483648) 2147483647], [], [], some (.inl (cI (-2147483648) 2147483647)))])
/-! the class's share by hand, but for its answer (q730) -/
noncomputable def SYM : List Rng := [(73, 0, 255), (74, 0, 255)]
theorem sy_ck : (List.range 9).all (fun n => (List.range (2 ^ n)).all (fun s => Nat.blt (pcT s) n || Nat.beq s (2 ^ n - 1))) = true := by decide +kernel
theorem sy_full : ∀ n : Fin 9, ∀ c : Fin 9, c.val < n.val → isB (2 ^ n.val - 1) c.val = true := by decide +kernel
theorem sy_pc {n s c : Nat} (n8 : n ≤ 8) (hs : s < 2 ^ n) (hc : c < n) (b : isB s c = false) : pcT s < n := by
  have a := List.all_eq_true.mp (List.all_eq_true.mp sy_ck n (List.mem_range.mpr (by first | decide | with_reducible assumption | omega))) s (List.mem_range.mpr hs)
  rw [Bool.or_eq_true] at a
  rcases a with a | a
  · exact Nat.le_of_ble_eq_true a
  · rw [Nat.eq_of_beq_eq_true a, sy_full ⟨n, by omega⟩ ⟨c, by omega⟩ hc] at b; cases b
theorem sy_fac : ∀ k : Fin 9, 1 ≤ (pm_fac k.val).toInt64.toInt ∧ (pm_fac k.val).toInt64.toInt ≤ 40320 := by decide +kernel
section SYE
variable {look : Nat → Option pm_I} {call : pm_Call} {Q : pm_H → Option Value → Prop} {pc n i t : Nat} {lv : List (Nat × Value)} {st : List Value} {w : pm_H × Nat × Nat}
theorem sy_neW {v u : Value} {j : Nat} (hj : j ≠ i) (hc : j + 1 = i → u.category = 1) (e : pm_get lv j = some u) : pm_get (pm_put1 i v lv) j = some u := by
  unfold pm_put1
  refine pm_get_ne hj (pm_get_filter e ?_)
  simp only [Bool.and_eq_true, Bool.not_eq_true', Bool.and_eq_false_iff, beq_eq_false_iff_ne]
  refine ⟨hj, ?_⟩
  by_cases q : j + 1 = i
  · exact .inr (by rw [hc q]; decide)
  · exact .inl q
theorem sy_ne2 {v u : Value} {j : Nat} (hj : j ≠ i) (hj2 : j ≠ i + 1) (hc : j + 1 = i → u.category = 1) (e : pm_get lv j = some u) : pm_get (pm_put2 i v lv) j = some u := by
  unfold pm_put2
  refine pm_get_ne hj (pm_get_filter e ?_)
  simp only [Bool.and_eq_true, Bool.not_eq_true', Bool.and_eq_false_iff, beq_eq_false_iff_ne]
  refine ⟨hj, hj2, ?_⟩
  by_cases q : j + 1 = i
  · exact .inr (by rw [hc q]; decide)
  · exact .inl q
theorem sy_ls {x : Int64} (h1 : look pc = some (.inl (s_ls i n))) (k : ∀ lv' : List (Nat × Value), pm_get lv' i = some (.long x) → (∀ (j : Nat) (u : Value), j ≠ i → j ≠ i + 1 → (j + 1 = i → u.category = 1) → pm_get lv j = some u → pm_get lv' j = some u) → Ends look call (n, lv', st, w) Q) : Ends look call (pc, lv, .long x :: st, w) Q :=
  E_st h1 rfl (k (pm_put2 i (.long x) lv) pm_get_self (fun _ _ a b c e => sy_ne2 a b c e))
theorem sy_is {x : Int32} (h1 : look pc = some (.inl (s_is i n))) (k : ∀ lv' : List (Nat × Value), pm_get lv' i = some (.int x) → (∀ (j : Nat) (u : Value), j ≠ i → (j + 1 = i → u.category = 1) → pm_get lv j = some u → pm_get lv' j = some u) → Ends look call (n, lv', st, w) Q) : Ends look call (pc, lv, .int x :: st, w) Q :=
  E_st h1 rfl (k (pm_put1 i (.int x) lv) pm_get_self (fun _ _ a b c => sy_neW a b c))
theorem sy_inc {x d y : Int32} (h1 : look pc = some (.inl (s_inc i d n))) (e : pm_get lv i = some (.int x)) (ey : x + d = y) (k : ∀ lv' : List (Nat × Value), pm_get lv' i = some (.int y) → (∀ (j : Nat) (u : Value), j ≠ i → (j + 1 = i → u.category = 1) → pm_get lv j = some u → pm_get lv' j = some u) → Ends look call (n, lv', st, w) Q) : Ends look call (pc, lv, st, w) Q := by
  subst ey
  exact E_st h1 (by simp only [s_inc, e]) (k (pm_put1 i (.int (x + d)) lv) pm_get_self (fun _ _ a b c => sy_neW a b c))
theorem sy_lb {op : Int64 → Int64 → Int64} {x y : Int64} (h1 : look pc = some (.inl (s_lbin op n))) (k : Ends look call (n, lv, .long (op x y) :: st, w) Q) : Ends look call (pc, lv, .long y :: .long x :: st, w) Q := E_st h1 rfl k
theorem sy_i2l {x : Int32} (h1 : look pc = some (.inl (s_i2l n))) (k : Ends look call (n, lv, .long x.toInt64 :: st, w) Q) : Ends look call (pc, lv, .int x :: st, w) Q := E_st h1 rfl k
theorem sy_tald {j : Nat} (h1 : look pc = some (.inl (s_tald n))) (hj : j < 9) (k : Ends look call (n, lv, .int (pm_fac j) :: st, w) Q) : Ends look call (pc, lv, .int (nJ j) :: .retAddr 1 :: st, w) Q := by
  have h2 := nJ_toInt (n := j) (by first | decide | with_reducible assumption | omega)
  have h3 : pm_ix (nJ j) 9 = true := ai_ix (by first | decide | with_reducible assumption | omega) (by first | decide | with_reducible assumption | omega)
  have h4 : (nJ j).toNatClampNeg = j := by show (nJ j).toInt.toNat = j; omega
  refine E_st h1 ?_ k
  simp only [s_tald, h3, h4, cond_true]
end SYE
section SYH
variable {h : pm_H} {d : Nat} {x y : Int32}
theorem sy_i4 (hh : HH h) : gi h 15 4 = nJ (gn h 15 4) ∧ gn h 15 4 ≤ 8 := ⟨gi_gn hh rfl (by decide), gn_hi hh rfl (by decide)⟩
theorem sy_every (hh : HH h) : Sp (d + 1) 103 h [.ref 0] (fun h' r => h' = h ∧ r = some (.int (nJ (2 ^ gn h 15 4 - 1)))) := by
  obtain ⟨a3, a4⟩ := sy_i4 hh
  refine Sp_of aiX8_everyCar rfl rfl rfl ?_
  have L0 : pm_get (lv_args 0 [.ref 0]) 0 = some (.ref 0) := rfl
  generalize lv_args 0 [.ref 0] = lv at L0 ⊢
  refine E_ci 1 rfl ci1 ?_
  refine E_al rfl L0 ?_
  refine E_ogr (q := 15) rfl hh rfl rfl ?_
  refine E_ogf (q := (0, 8)) rfl hh rfl rfl a3 ?_
  refine E_bin rfl rfl ?_
  refine E_ci 1 rfl ci1 ?_
  refine E_bin rfl (show nJ 1 <<< (nJ (gn h 15 4) &&& 31) - nJ 1 = nJ (2 ^ gn h 15 4 - 1) from by rw [bl_shl ⟨gn h 15 4, by omega⟩, nJ_sub (Nat.pow_pos (by first | decide | with_reducible assumption | omega))]) ?_
  exact E_rti rfl ⟨rfl, rfl⟩
theorem sy_car (hh : HH h) : Sp (d + 1) 114 h [.ref 0, .int x] (fun h' r => h' = h ∧ r = some (.int (zb (0 ≤ x.toInt ∧ x.toInt < (gn h 15 4 : Int))))) := sp_hasCar8 hh
theorem sy_term {w : Int32} : Sp (d + 1) 129 h [.int w] (fun h' r => h' = h ∧ r = some (.int (zb (0 ≤ w.toInt ∧ w.toInt ≤ 1)))) := by
  refine Sp_of aiX8_isTerm rfl rfl rfl ?_
  have L0 : pm_get (lv_args 0 [.int w]) 0 = some (.int w) := rfl
  generalize lv_args 0 [.int w] = lv at L0 ⊢
  refine E_il rfl L0 ?_
  by_cases b1 : w = 0
  · refine E_ifT rfl (decide_eq_true b1) ?_
    refine E_ci 1 rfl ci1 ?_
    refine E_goto rfl ?_
    exact E_rtz rfl (.inr rfl) ⟨rfl, by rw [b1, zb_T (by decide)]⟩
  · refine E_ifF rfl (decide_eq_false b1) ?_
    refine E_il rfl L0 ?_
    refine E_c rfl ?_
    by_cases b2 : w = 1
    · refine E_icF rfl (decide_eq_false (fun q => q b2)) ?_
      refine E_ci 1 rfl ci1 ?_
      refine E_goto rfl ?_
      exact E_rtz rfl (.inr rfl) ⟨rfl, by rw [b2, zb_T (by decide)]⟩
    · refine E_icT rfl (decide_eq_true b2) ?_
      refine E_ci 0 rfl ci0 ?_
      refine E_rtz rfl (.inl rfl) ⟨rfl, ?_⟩
      rw [zb_F]
      rintro ⟨q1, q2⟩
      have z0 : (0 : Int32).toInt = 0 := rfl
      have z1 : (1 : Int32).toInt = 1 := rfl
      rcases (show w.toInt = 0 ∨ w.toInt = 1 by omega) with q | q
      · exact b1 (Int32.toInt_inj.mp (by rw [q, z0]))
      · exact b2 (Int32.toInt_inj.mp (by rw [q, z1]))
theorem sy_fill1 {n : Nat} {k : Int} {M : List Rng} {mm : MB} (q : sum_g w0 (pm_Rt pm_P 4) (42, [cR 72, cR 17, cI k k, cI 0 8, cI 0 3], [], [], M, [([cR 72, cR 17, cI k k, cI 0 8, cI 0 3], mm, [], none)])) (hk : (nJ n).toInt = k) (hM : M.all (fun r => rg_sub SYM r.1 r.2.1 r.2.2) = true) (hh : HH h) (x0 : 0 ≤ x.toInt) (x8 : x.toInt ≤ 8) (y0 : 0 ≤ y.toInt) (y3 : y.toInt ≤ 3) : Sp 4 42 h [.ref 72, .ref 17, .int (nJ n), .int x, .int y] (fun h' r => r = none ∧ HH h' ∧ fr_g SYM h h') := by
  obtain ⟨h', r, p, a, b, C, hC, c⟩ := q h [.ref 72, .ref 17, .int (nJ n), .int x, .int y] hh ⟨rfl, rfl, ⟨Int.le_of_eq hk.symm, Int.le_of_eq hk⟩, ⟨x0, x8⟩, ⟨y0, y3⟩, trivial⟩ (fun _ hq => absurd hq List.not_mem_nil) (fun _ hq => absurd hq List.not_mem_nil)
  cases List.mem_singleton.mp hC
  refine ⟨h', r, p, ?_, a, fr_wk hM b⟩
  obtain ⟨-, -, -, c3⟩ := c
  have c4 : rv_g h' none r := c3
  cases r with
  | none => rfl
  | some v => exact c4.elim
theorem sy_fill {n : Nat} (n1 : 1 ≤ n) (n8 : n ≤ 8) (hh : HH h) (x0 : 0 ≤ x.toInt) (x8 : x.toInt ≤ 8) (y0 : 0 ≤ y.toInt) (y3 : y.toInt ≤ 3) : Sp 4 42 h [.ref 72, .ref 17, .int (nJ n), .int x, .int y] (fun h' r => r = none ∧ HH h' ∧ fr_g SYM h h') := by
  rcases (show n = 1 ∨ n = 2 ∨ n = 3 ∨ n = 4 ∨ n = 5 ∨ n = 6 ∨ n = 7 ∨ n = 8 by omega) with rfl | rfl | rfl | rfl | rfl | rfl | rfl | rfl
  · exact sy_fill1 q710 (by decide) rfl hh x0 x8 y0 y3
  · exact sy_fill1 q694 (by decide) rfl hh x0 x8 y0 y3
  · exact sy_fill1 q692 (by decide) rfl hh x0 x8 y0 y3
  · exact sy_fill1 q690 (by decide) rfl hh x0 x8 y0 y3
  · exact sy_fill1 q688 (by decide) rfl hh x0 x8 y0 y3
  · exact sy_fill1 q686 (by decide) rfl hh x0 x8 y0 y3
  · exact sy_fill1 q684 (by decide) rfl hh x0 x8 y0 y3
  · exact sy_fill1 q682 (by decide) rfl hh x0 x8 y0 y3
theorem sy_frac {z u : Int64} {w : Int32} (hh : HH h) (u1 : 1 ≤ u.toInt) (u2 : u.toInt ≤ 40320) (b0 : 0 ≤ w.toInt) (b1 : w.toInt ≤ 1) : Sp 4 190 h [.long z, .long u, .int w] (fun h' r => HH h' ∧ fr_g [] h h' ∧ ∃ v : Int64, r = some (.long v)) := by
  obtain ⟨h', r, p, a, b, C, hC, c⟩ := sum_up q715 2 h [.long z, .long u, .int w] hh ⟨⟨al_lo z, al_hi z⟩, ⟨u1, u2⟩, ⟨b0, b1⟩, trivial⟩ (fun _ hq => absurd hq List.not_mem_nil) (fun _ hq => absurd hq List.not_mem_nil)
  cases List.mem_singleton.mp hC
  refine ⟨h', r, p, a, b, ?_⟩
  obtain ⟨-, -, -, c3⟩ := c
  have c4 : rv_g h' (some (.inl (cL (-9223372036854775808) 9223372036854775807))) r := c3
  cases r with
  | none => exact c4.elim
  | some v => cases v with
    | long v => exact ⟨v, rfl⟩
    | _ => exact c4.elim
theorem sy_loop {g : pm_H} {n c : Nat} {w : Int32} (hg : HH g) (n8 : n ≤ 8) (hc : c < n) (g4 : gi g 15 4 = nJ n) (b0 : 0 ≤ w.toInt) (b1 : w.toInt ≤ 1) (j : Nat) : ∀ {s : Nat} {z : Int64} (lv : List (Nat × Value)), s + j = 2 ^ n → pm_get lv 0 = some (.ref 0) → pm_get lv 1 = some (.int (nJ c)) → pm_get lv 2 = some (.int w) → pm_get lv 3 = some (.long z) → pm_get lv 5 = some (.int (nJ s)) → Ends (pm_at tX8_share) (pm_Rt pm_P 4) (59, lv, [], g, 0, 0) (fun h' r => HH h' ∧ fr_g [] g h' ∧ ∃ v : Int32, r = some (.int v)) := by
  have q8 : 2 ^ n ≤ 2 ^ 8 := Nat.pow_le_pow_right (by first | decide | with_reducible assumption | omega) n8
  have q0 : 0 < 2 ^ n := Nat.pow_pos (by first | decide | with_reducible assumption | omega)
  have e4 : gn g 15 4 = n := by
    have := (sy_i4 hg).2
    have e := (sy_i4 hg).1
    rw [g4] at e
    exact ((nJ_eq (by first | decide | with_reducible assumption | omega) (by first | decide | with_reducible assumption | omega)).mp e).symm
  induction j with
  | zero =>
    intro s z lv hj L0 L1 L2 L3 L5
    refine E_il rfl L5 ?_
    refine E_al rfl L0 ?_
    refine E_call rfl (Sp_le (by first | exact Nat.add_le_add_left (Nat.le_of_ble_eq_true rfl) _ | exact Nat.le_of_ble_eq_true rfl | omega) (sy_every (d := 0) hg)) (chkO (a := 0) hg rfl rfl rfl rfl (by show 1 ≤ 8; decide)) (fun h1 r1 => ?_)
    rintro ⟨e1, f1⟩
    rw [e1, f1, e4]
    refine E_icT rfl (decide_eq_true ((nJ_lt (by first | decide | with_reducible assumption | omega) (by first | decide | with_reducible assumption | omega)).mpr (by first | decide | with_reducible assumption | omega))) ?_
    refine E_ll rfl L3 ?_
    refine E_c rfl ?_
    refine E_al rfl L0 ?_
    refine E_ogr (q := 15) rfl hg rfl rfl ?_
    refine E_ogf (q := (0, 8)) rfl hg rfl rfl g4 ?_
    refine sy_tald rfl (by first | decide | with_reducible assumption | omega) ?_
    refine sy_i2l rfl ?_
    refine E_il rfl L2 ?_
    have fc := sy_fac ⟨n, by omega⟩
    refine E_call rfl (sy_frac (z := z) (w := w) hg fc.1 fc.2 b0 b1) (chkS rfl (by show 0 ≤ 8; decide)) (fun h2 r2 => ?_)
    rintro ⟨hh2, f2, v, e2⟩
    rw [e2]
    refine E_l2i rfl rfl ?_
    exact E_rti rfl ⟨hh2, f2, _, rfl⟩
  | succ j ih =>
    intro s z lv hj L0 L1 L2 L3 L5
    have hs : s < 2 ^ n := by omega
    refine E_il rfl L5 ?_
    refine E_al rfl L0 ?_
    refine E_call rfl (Sp_le (by first | exact Nat.add_le_add_left (Nat.le_of_ble_eq_true rfl) _ | exact Nat.le_of_ble_eq_true rfl | omega) (sy_every (d := 0) hg)) (chkO (a := 0) hg rfl rfl rfl rfl (by show 1 ≤ 8; decide)) (fun h1 r1 => ?_)
    rintro ⟨e1, f1⟩
    rw [e1, f1, e4]
    refine E_icF rfl (decide_eq_false (fun z => absurd ((nJ_lt (by first | decide | with_reducible assumption | omega) (by first | decide | with_reducible assumption | omega)).mp z) (by first | decide | with_reducible assumption | omega))) ?_
    have nx : ∀ (lv : List (Nat × Value)) (z : Int64), pm_get lv 0 = some (.ref 0) → pm_get lv 1 = some (.int (nJ c)) → pm_get lv 2 = some (.int w) → pm_get lv 3 = some (.long z) → pm_get lv 5 = some (.int (nJ s)) → Ends (pm_at tX8_share) (pm_Rt pm_P 4) (143, lv, [], g, 0, 0) (fun h' r => HH h' ∧ fr_g [] g h' ∧ ∃ v : Int32, r = some (.int v)) := by
      intro lv z N0 N1 N2 N3 N5
      refine sy_inc rfl N5 (nJ_inc _) (fun lv2 K5 kp2 => ?_)
      refine E_goto rfl ?_
      exact ih lv2 (by first | decide | with_reducible assumption | omega) (kp2 0 _ (nbz rfl) (fun q => absurd q (nbz rfl)) N0) (kp2 1 _ (nbz rfl) (fun q => absurd q (nbz rfl)) N1) (kp2 2 _ (nbz rfl) (fun q => absurd q (nbz rfl)) N2) (kp2 3 _ (nbz rfl) (fun q => absurd q (nbz rfl)) N3) K5
    refine E_il rfl L5 ?_
    refine E_il rfl L1 ?_
    refine E_bin rfl rfl ?_
    refine E_ci 1 rfl ci1 ?_
    refine E_bin rfl (bl_bit (by first | decide | with_reducible assumption | omega) (by first | decide | with_reducible assumption | omega)) ?_
    cases b : isB s c with
    | true =>
      refine E_ifT rfl (by decide) ?_
      exact nx lv z L0 L1 L2 L3 L5
    | false =>
      refine E_ifF rfl (by decide) ?_
      have pl := sy_pc n8 hs hc b
      have q2 : s ||| 2 ^ c < 2 ^ n := Nat.or_lt_two_pow hs (Nat.pow_lt_pow_right (by first | decide | with_reducible assumption | omega) hc)
      refine E_il rfl L5 ?_
      refine E_call rfl (Sp_le (by first | exact Nat.add_le_add_left (Nat.le_of_ble_eq_true rfl) _ | exact Nat.le_of_ble_eq_true rfl | omega) (sp_bitCount (d := 0) (x := nJ s))) (chkS rfl (by show 0 ≤ 8; decide)) (fun h2 r2 => ?_)
      rintro ⟨e2, f2⟩
      rw [e2, f2, show bcn (nJ s) = nJ (pcT s) from bcn_tab ⟨s, by omega⟩]
      refine sy_is rfl (fun lv1 K6 kp => ?_)
      have A0 := kp 0 _ (nbz rfl) (fun q => absurd q (nbz rfl)) L0
      have A1 := kp 1 _ (nbz rfl) (fun q => absurd q (nbz rfl)) L1
      have A2 := kp 2 _ (nbz rfl) (fun q => absurd q (nbz rfl)) L2
      have A3 := kp 3 _ (nbz rfl) (fun q => absurd q (nbz rfl)) L3
      have A5 := kp 5 _ (nbz rfl) (fun _ => rfl) L5
      refine E_c rfl ?_
      refine E_il rfl K6 ?_
      refine sy_tald rfl (by first | decide | with_reducible assumption | omega) ?_
      refine sy_i2l rfl ?_
      refine E_c rfl ?_
      refine E_al rfl A0 ?_
      refine E_ogr (q := 15) rfl hg rfl rfl ?_
      refine E_ogf (q := (0, 8)) rfl hg rfl rfl g4 ?_
      refine E_ci 1 rfl ci1 ?_
      refine E_bin rfl (nJ_sub (by first | decide | with_reducible assumption | omega)) ?_
      refine E_il rfl K6 ?_
      refine E_bin rfl (nJ_sub (by first | decide | with_reducible assumption | omega)) ?_
      refine sy_tald rfl (by first | decide | with_reducible assumption | omega) ?_
      refine sy_i2l rfl ?_
      refine sy_lb rfl ?_
      refine sy_ls rfl (fun lv2 K7 kp2 => ?_)
      replace A0 := kp2 0 _ (nbz rfl) (nbz rfl) (fun q => absurd q (nbz rfl)) A0
      replace A1 := kp2 1 _ (nbz rfl) (nbz rfl) (fun q => absurd q (nbz rfl)) A1
      replace A2 := kp2 2 _ (nbz rfl) (nbz rfl) (fun q => absurd q (nbz rfl)) A2
      replace A3 := kp2 3 _ (nbz rfl) (nbz rfl) (fun q => absurd q (nbz rfl)) A3
      replace A5 := kp2 5 _ (nbz rfl) (nbz rfl) (fun q => absurd q (nbz rfl)) A5
      refine E_ll rfl A3 ?_
      refine E_ll rfl K7 ?_
      refine E_al rfl A0 ?_
      refine E_ogr (q := 72) rfl hg rfl rfl ?_
      refine E_ogr (q := 74) rfl hg rfl rfl ?_
      refine E_il rfl A5 ?_
      refine E_ci 1 rfl ci1 ?_
      refine E_il rfl A1 ?_
      refine E_bin rfl (show nJ 1 <<< (nJ c &&& 31) = nJ (2 ^ c) from bl_shl ⟨c, by omega⟩) ?_
      refine E_bin rfl (bl_or _ _) ?_
      refine E_ial rfl hg rfl (by first | decide | with_reducible assumption | omega) (by decide) rfl ?_
      refine E_al rfl A0 ?_
      refine E_ogr (q := 72) rfl hg rfl rfl ?_
      refine E_ogr (q := 74) rfl hg rfl rfl ?_
      refine E_il rfl A5 ?_
      refine E_ial rfl hg rfl (by first | decide | with_reducible assumption | omega) (by decide) rfl ?_
      refine E_bin rfl rfl ?_
      refine sy_i2l rfl ?_
      refine sy_lb rfl ?_
      refine sy_lb rfl ?_
      refine sy_ls rfl (fun lv3 K3 kp3 => ?_)
      exact nx lv3 _ (kp3 0 _ (nbz rfl) (nbz rfl) (fun q => absurd q (nbz rfl)) A0) (kp3 1 _ (nbz rfl) (nbz rfl) (fun q => absurd q (nbz rfl)) A1) (kp3 2 _ (nbz rfl) (nbz rfl) (fun _ => rfl) A2) K3 (kp3 5 _ (nbz rfl) (nbz rfl) (fun q => absurd q (nbz rfl)) A5)
theorem sy_share {w : Int32} (hh : HH h) : Sp 5 177 h [.ref 0, .int x, .int w] (fun h' r => HH h' ∧ fr_g SYM h h' ∧ ∃ v : Int32, r = some (.int v)) := by
  refine Sp_of aiX8_share rfl rfl rfl ?_
  have L0 : pm_get (lv_args 0 [.ref 0, .int x, .int w]) 0 = some (.ref 0) := rfl
  have L1 : pm_get (lv_args 0 [.ref 0, .int x, .int w]) 1 = some (.int x) := rfl
  have L2 : pm_get (lv_args 0 [.ref 0, .int x, .int w]) 2 = some (.int w) := rfl
  generalize lv_args 0 [.ref 0, .int x, .int w] = lv at L0 L1 L2 ⊢
  obtain ⟨i4, n8⟩ := sy_i4 hh
  have no : Ends (pm_at tX8_share) (pm_Rt pm_P 4) (15, lv, [], h, 0, 0) (fun h' r => HH h' ∧ fr_g SYM h h' ∧ ∃ v : Int32, r = some (.int v)) := by
    refine E_c rfl ?_
    exact E_rti rfl ⟨hh, fr_rf _ _, _, rfl⟩
  refine E_al rfl L0 ?_
  refine E_il rfl L1 ?_
  refine E_call rfl (Sp_le (by first | exact Nat.add_le_add_left (Nat.le_of_ble_eq_true rfl) _ | exact Nat.le_of_ble_eq_true rfl | omega) (sy_car (d := 0) hh)) (chkO (a := 0) hh rfl rfl rfl rfl (by show 0 ≤ 8; decide)) (fun h1 r1 => ?_)
  rintro ⟨e1, f1⟩
  rw [e1, f1]
  by_cases c1 : 0 ≤ x.toInt ∧ x.toInt < (gn h 15 4 : Int)
  · refine E_ifF rfl (by rw [zb_T c1]; rfl) ?_
    refine E_il rfl L2 ?_
    refine E_call rfl (Sp_le (by first | exact Nat.add_le_add_left (Nat.le_of_ble_eq_true rfl) _ | exact Nat.le_of_ble_eq_true rfl | omega) (sy_term (d := 0))) (chkS rfl (by show 0 ≤ 8; decide)) (fun h2 r2 => ?_)
    rintro ⟨e2, f2⟩
    rw [e2, f2]
    by_cases c2 : 0 ≤ w.toInt ∧ w.toInt ≤ 1
    · refine E_ifT rfl (by rw [zb_T c2]; rfl) ?_
      obtain ⟨c, hc, rfl⟩ : ∃ c, c < gn h 15 4 ∧ x = nJ c := ⟨x.toInt.toNat, by omega, nJ_of c1.1⟩
      have p8 : gi h 15 0 = nJ (gn h 15 0) ∧ gn h 15 0 ≤ 8 := ⟨gi_gn hh rfl (by decide), gn_hi hh rfl (by decide)⟩
      have l3 : gi h 15 1 = nJ (gn h 15 1) ∧ gn h 15 1 ≤ 3 := ⟨gi_gn hh rfl (by decide), gn_hi hh rfl (by decide)⟩
      have p9 := nJ_toInt (n := gn h 15 0) (by first | decide | with_reducible assumption | omega)
      have l9 := nJ_toInt (n := gn h 15 1) (by first | decide | with_reducible assumption | omega)
      refine E_al rfl L0 ?_
      refine E_ogr (q := 72) rfl hh rfl rfl ?_
      refine E_al rfl L0 ?_
      refine E_ogr (q := 15) rfl hh rfl rfl ?_
      refine E_ogr (q := 17) rfl hh rfl rfl ?_
      refine E_al rfl L0 ?_
      refine E_ogr (q := 15) rfl hh rfl rfl ?_
      refine E_ogf (q := (0, 8)) rfl hh rfl rfl i4 ?_
      refine E_al rfl L0 ?_
      refine E_ogr (q := 15) rfl hh rfl rfl ?_
      refine E_ogf (q := (0, 8)) rfl hh rfl rfl p8.1 ?_
      refine E_al rfl L0 ?_
      refine E_ogr (q := 15) rfl hh rfl rfl ?_
      refine E_ogf (q := (0, 3)) rfl hh rfl rfl l3.1 ?_
      refine E_call rfl (sy_fill (n := gn h 15 4) (by first | decide | with_reducible assumption | omega) n8 hh (by first | decide | with_reducible assumption | omega) (by first | decide | with_reducible assumption | omega) (by first | decide | with_reducible assumption | omega) (by first | decide | with_reducible assumption | omega)) (chkO (a := 72) hh rfl rfl rfl rfl (by show 0 ≤ 8; decide)) (fun h3 r3 => ?_)
      rintro ⟨e3, hh3, f3⟩
      rw [e3]
      refine E_c rfl ?_
      refine sy_ls rfl (fun lv1 K3 kp => ?_)
      refine E_ci 0 rfl ci0 ?_
      refine sy_is rfl (fun lv2 K5 kp2 => ?_)
      have A0 := kp2 0 _ (nbz rfl) (fun q => absurd q (nbz rfl)) (kp 0 _ (nbz rfl) (nbz rfl) (fun q => absurd q (nbz rfl)) L0)
      have A1 := kp2 1 _ (nbz rfl) (fun q => absurd q (nbz rfl)) (kp 1 _ (nbz rfl) (nbz rfl) (fun q => absurd q (nbz rfl)) L1)
      have A2 := kp2 2 _ (nbz rfl) (fun q => absurd q (nbz rfl)) (kp 2 _ (nbz rfl) (nbz rfl) (fun _ => rfl) L2)
      have A3 := kp2 3 _ (nbz rfl) (fun q => absurd q (nbz rfl)) K3
      obtain ⟨h', r, p, a, b, v⟩ := sy_loop hh3 n8 hc (by rw [fr_gi f3 (rg_no rfl _)]; exact i4) c2.1 c2.2 (2 ^ gn h 15 4) (s := 0) lv2 (by first | decide | with_reducible assumption | omega) A0 A1 A2 A3 K5
      exact ⟨h', r, p, a, fr_trans f3 (fr_wk rfl b), v⟩
    · refine E_ifF rfl (by rw [zb_F c2]; rfl) ?_
      exact no
  · refine E_ifT rfl (by rw [zb_F c1]; rfl) ?_
    exact no
theorem q730 : sum_g w0 (pm_Rt pm_P 5) S730 := by
  intro h as hh ha _ _
  match as, ha with
  | [.ref a, .int x, .int w], ⟨h1, h2, h3, _⟩ =>
    have h1 : a = 0 := h1
    subst h1
    obtain ⟨h', r, p1, hh', fr, v, rfl⟩ := sy_share (x := x) (w := w) hh
    exact ⟨h', _, p1, hh', fr, _, List.mem_cons_self, ⟨rfl, h2, h3, trivial⟩, fun _ hq => absurd hq List.not_mem_nil, fun _ hq => absurd hq List.not_mem_nil, ai_lo v, ai_hi v⟩
end SYH
noncomputable def S731 : Sum1 := (360, [cI 0 0], [], [], [], [([cI 0 0], [], [], some (.inl (cI 1 1)))])
theorem q731 : sum_g w0 (pm_Rt pm_P 1) S731 := meth_okB (d := 0) (cuts := []) (spl := []) (K := [0]) (N := 7) (sums := []) aiX9_times (abX9_times w0) (by decide) (fun _ h => absurd h List.not_mem_nil) (by decide +kernel)
noncomputable def S732 : Sum1 := (360, [cI 1 1], [], [], [], [([cI 1 1], [], [], some (.inl (cI 1 1)))])
theorem q732 : sum_g w0 (pm_Rt pm_P 1) S732 := meth_okB (d := 0) (cuts := []) (spl := []) (K := [0]) (N := 7) (sums := []) aiX9_times (abX9_times w0) (by decide) (fun _ h => absurd h List.not_mem_nil) (by decide +kernel)
noncomputable def S733 : Sum1 := (360, [cI 1 2], [], [], [], [([cI 1 1], [], [], some (.inl (cI 1 1))), ([cI 2 2], [], [], some (.inl (cI 2 2)))])
theorem q733 : sum_g w0 (pm_Rt pm_P 2) S733 := meth_okB (d := 1) (cuts := []) (spl := []) (K := [0]) (N := 11) (sums := [S732]) aiX9_times (abX9_times w0) (by decide) (List.forall_mem_cons.mpr ⟨sum_up q732 0, fun _ h => absurd h List.not_mem_nil⟩) (by decide +kernel)
noncomputable def S734 : Sum1 := (360, [cI 1 3], [], [], [], [([cI 1 1], [], [], some (.inl (cI 1 1))), ([cI 2 3], [], [], some (.inl (cI 2 6)))])
theorem q734 : sum_g w0 (pm_Rt pm_P 3) S734 := meth_okB (d := 2) (cuts := []) (spl := []) (K := [0]) (N := 11) (sums := [S733]) aiX9_times (abX9_times w0) (by decide) (List.forall_mem_cons.mpr ⟨sum_up q733 0, fun _ h => absurd h List.not_mem_nil⟩) (by decide +kernel)
noncomputable def S735 : Sum1 := (360, [cI 1 4], [], [], [], [([cI 1 1], [], [], some (.inl (cI 1 1))), ([cI 2 4], [], [], some (.inl (cI 2 24)))])
theorem q735 : sum_g w0 (pm_Rt pm_P 4) S735 := meth_okB (d := 3) (cuts := []) (spl := []) (K := [0]) (N := 11) (sums := [S734]) aiX9_times (abX9_times w0) (by decide) (List.forall_mem_cons.mpr ⟨sum_up q734 0, fun _ h => absurd h List.not_mem_nil⟩) (by decide +kernel)
noncomputable def S736 : Sum1 := (360, [cI 1 5], [], [], [], [([cI 1 1], [], [], some (.inl (cI 1 1))), ([cI 2 5], [], [], some (.inl (cI 2 120)))])
theorem q736 : sum_g w0 (pm_Rt pm_P 5) S736 := meth_okB (d := 4) (cuts := []) (spl := []) (K := [0]) (N := 11) (sums := [S735]) aiX9_times (abX9_times w0) (by decide) (List.forall_mem_cons.mpr ⟨sum_up q735 0, fun _ h => absurd h List.not_mem_nil⟩) (by decide +kernel)
noncomputable def S737 : Sum1 := (360, [cI 1 6], [], [], [], [([cI 1 1], [], [], some (.inl (cI 1 1))), ([cI 2 6], [], [], some (.inl (cI 2 720)))])
theorem q737 : sum_g w0 (pm_Rt pm_P 6) S737 := meth_okB (d := 5) (cuts := []) (spl := []) (K := [0]) (N := 11) (sums := [S736]) aiX9_times (abX9_times w0) (by decide) (List.forall_mem_cons.mpr ⟨sum_up q736 0, fun _ h => absurd h List.not_mem_nil⟩) (by decide +kernel)
noncomputable def S738 : Sum1 := (360, [cI (-1) 7], [], [], [], [([cI (-1) 1], [], [], some (.inl (cI 1 1))), ([cI 2 7], [], [], some (.inl (cI 2 5040)))])
theorem q738 : sum_g w0 (pm_Rt pm_P 7) S738 := meth_okB (d := 6) (cuts := []) (spl := []) (K := [0]) (N := 11) (sums := [S737]) aiX9_times (abX9_times w0) (by decide) (List.forall_mem_cons.mpr ⟨sum_up q737 0, fun _ h => absurd h List.not_mem_nil⟩) (by decide +kernel)
noncomputable def S739 : Sum1 := (379, [cR 77, cI 1 255], [], [125], [(77, 22, 23), (77, 27, 27), (89, 0, 7), (90, 0, 9), (91, 0, 7)], [([cR 77, cI 1 255], [((77, 23), 1, 255)], [], some (.inl (cI (-2147483648) 2147483647)))])
theorem q739 : sum_g w0 (pm_Rt pm_P 5) S739 := meth_okB (d := 4) (cuts := []) (spl := []) (K := [0, 1]) (N := 13) (sums := [S118, S172, S149]) aiX9_worthOf (abX9_worthOf w0) (by decide) (List.forall_mem_cons.mpr ⟨sum_up q118 2, List.forall_mem_cons.mpr ⟨sum_up q172 1, List.forall_mem_cons.mpr ⟨sum_up q149 0, fun _ h => absurd h List.not_mem_nil⟩⟩⟩) (by decide +kernel)
noncomputable def S740 : Sum1 := (379, [cR 77, cI 0 0], [], [125], [(77, 22, 23), (77, 27, 27), (89, 0, 7), (90, 0, 9), (91, 0, 7)], [([cR 77, cI 0 0], [((77, 23), 0, 0)], [], some (.inl (cI (-2147483648) 2147483647)))])
theorem q740 : sum_g w0 (pm_Rt pm_P 5) S740 := meth_okB (d := 4) (cuts := []) (spl := []) (K := [0, 1]) (N := 13) (sums := [S118, S172, S149]) aiX9_worthOf (abX9_worthOf w0) (by decide) (List.forall_mem_cons.mpr ⟨sum_up q118 2, List.forall_mem_cons.mpr ⟨sum_up q172 1, List.forall_mem_cons.mpr ⟨sum_up q149 0, fun _ h => absurd h List.not_mem_nil⟩⟩⟩) (by decide +kernel)
noncomputable def S741 : Sum1 := (360, [cI (-2) 6], [], [], [], [([cI (-2) 1], [], [], some (.inl (cI 1 1))), ([cI 2 6], [], [], some (.inl (cI 2 720)))])
theorem q741 : sum_g w0 (pm_Rt pm_P 6) S741 := meth_okB (d := 5) (cuts := []) (spl := []) (K := [0]) (N := 11) (sums := [S736]) aiX9_times (abX9_times w0) (by decide) (List.forall_mem_cons.mpr ⟨sum_up q736 0, fun _ h => absurd h List.not_mem_nil⟩) (by decide +kernel)
noncomputable def S742 : Sum1 := (379, [cR 77, cI 1 128], [], [125], [(77, 22, 23), (77, 27, 27), (89, 0, 7), (90, 0, 9), (91, 0, 7)], [([cR 77, cI 1 128], [((77, 23), 1, 128)], [], some (.inl (cI (-2147483648) 2147483647)))])
theorem q742 : sum_g w0 (pm_Rt pm_P 5) S742 := meth_okB (d := 4) (cuts := []) (spl := []) (K := [0, 1]) (N := 13) (sums := [S118, S172, S149]) aiX9_worthOf (abX9_worthOf w0) (by decide) (List.forall_mem_cons.mpr ⟨sum_up q118 2, List.forall_mem_cons.mpr ⟨sum_up q172 1, List.forall_mem_cons.mpr ⟨sum_up q149 0, fun _ h => absurd h List.not_mem_nil⟩⟩⟩) (by decide +kernel)
noncomputable def S743 : Sum1 := (360, [cI 1 7], [], [], [], [([cI 1 1], [], [], some (.inl (cI 1 1))), ([cI 2 7], [], [], some (.inl (cI 2 5040)))])
theorem q743 : sum_g w0 (pm_Rt pm_P 7) S743 := meth_okB (d := 6) (cuts := []) (spl := []) (K := [0]) (N := 11) (sums := [S737]) aiX9_times (abX9_times w0) (by decide) (List.forall_mem_cons.mpr ⟨sum_up q737 0, fun _ h => absurd h List.not_mem_nil⟩) (by decide +kernel)
noncomputable def S744 : Sum1 := (360, [cI 2 8], [], [], [], [([cI 2 8], [], [], some (.inl (cI 2 40320)))])
theorem q744 : sum_g w0 (pm_Rt pm_P 8) S744 := meth_okB (d := 7) (cuts := []) (spl := []) (K := [0]) (N := 11) (sums := [S743]) aiX9_times (abX9_times w0) (by decide) (List.forall_mem_cons.mpr ⟨sum_up q743 0, fun _ h => absurd h List.not_mem_nil⟩) (by decide +kernel)
noncomputable def S745 : Sum1 := (360, [cI (-9) 5], [], [], [], [([cI (-9) 1], [], [], some (.inl (cI 1 1))), ([cI 2 5], [], [], some (.inl (cI 2 120)))])
theorem q745 : sum_g w0 (pm_Rt pm_P 5) S745 := meth_okB (d := 4) (cuts := []) (spl := []) (K := [0]) (N := 11) (sums := [S735]) aiX9_times (abX9_times w0) (by decide) (List.forall_mem_cons.mpr ⟨sum_up q735 0, fun _ h => absurd h List.not_mem_nil⟩) (by decide +kernel)
noncomputable def S746 : Sum1 := (379, [cR 77, cI 3 255], [], [125], [(77, 22, 23), (77, 27, 27), (89, 0, 7), (90, 0, 9), (91, 0, 7)], [([cR 77, cI 3 255], [((77, 23), 3, 255)], [], some (.inl (cI (-2147483648) 2147483647)))])
theorem q746 : sum_g w0 (pm_Rt pm_P 5) S746 := meth_okB (d := 4) (cuts := []) (spl := []) (K := [0, 1]) (N := 13) (sums := [S118, S172, S149]) aiX9_worthOf (abX9_worthOf w0) (by decide) (List.forall_mem_cons.mpr ⟨sum_up q118 2, List.forall_mem_cons.mpr ⟨sum_up q172 1, List.forall_mem_cons.mpr ⟨sum_up q149 0, fun _ h => absurd h List.not_mem_nil⟩⟩⟩) (by decide +kernel)
noncomputable def S747 : Sum1 := (360, [cI 0 8], [], [], [], [([cI 0 1], [], [], some (.inl (cI 1 1))), ([cI 2 8], [], [], some (.inl (cI 2 40320)))])
theorem q747 : sum_g w0 (pm_Rt pm_P 8) S747 := meth_okB (d := 7) (cuts := []) (spl := []) (K := [0]) (N := 11) (sums := [S743]) aiX9_times (abX9_times w0) (by decide) (List.forall_mem_cons.mpr ⟨sum_up q743 0, fun _ h => absurd h List.not_mem_nil⟩) (by decide +kernel)
end
section
/-! what is known of the methods, checked (written by emit.py) -/
noncomputable def S762 : Sum1 := (10, [cI 1 1, cI (-1) 9], [], [], [], [([cI 1 1, cI (-1) 1], [], [], some (.inl (cI 1 1))), ([cI 1 1, cI 2 9], [], [], some (.inl (cI 2 9)))])
theorem q762 : sum_g w0 (pm_Rt pm_P 1) S762 := meth_okB (d := 0) (cuts := []) (spl := []) (K := [0, 1]) (N := 7) (sums := []) aiJ9_max_7cf53 (abJ9_max_7cf53 w0) (by decide) (fun _ h => absurd h List.not_mem_nil) (by decide +kernel)
noncomputable def S763 : Sum1 := (111, [cR 0, cI 0 7, cI 0 7, cI 0 1, cI 0 1], [], [], [(62, 1, 3), (63, 0, 7), (75, 0, 7)], [([cR 0, cI 0 7, cI 0 7, cI 0 1, cI 0 1], [], [], some (.inl (cI (-1) 10)))])
theorem q763 : sum_g w0 (pm_Rt pm_P 6) S763 := meth_okB (d := 5) (cuts := []) (spl := []) (K := [0, 1, 2, 3, 4]) (N := 54) (sums := [S608, S620, S762, S152]) aiX8_gain (abX8_gain w0) (by decide) (List.forall_mem_cons.mpr ⟨sum_up q608 4, List.forall_mem_cons.mpr ⟨sum_up q620 0, List.forall_mem_cons.mpr ⟨sum_up q762 4, List.forall_mem_cons.mpr ⟨sum_up q152 4, fun _ h => absurd h List.not_mem_nil⟩⟩⟩⟩) (by decide +kernel)
noncomputable def S754 : Sum1 := (169, [cR 0, cI (-2147483648) 2147483647, cI (-2147483648) 2147483647], [], [], [(62, 1, 3), (63, 0, 7), (75, 0, 7)], [([cR 0, cI (-2147483648) 2147483647, cI (-2147483648) 2147483647], [], [], some (.inl (cI (-2) 15)))])
theorem q754 : sum_g w0 (pm_Rt pm_P 7) S754 := meth_okB (d := 6) (cuts := [(17, [([(4, cI 0 0), (0, cR 0), (1, cI 0 7), (2, cI 0 7), (3, cI 0 0)], [], [((15, 4), 1, 8)], [], [.inl 4]), ([(4, cI 1 1), (0, cR 0), (1, cI 0 7), (2, cI 0 7), (3, cI 0 1), (5, cI 0 0), (6, cI 0 0), (7, cI 0 1), (8, cI 0 1)], [], [((15, 4), 1, 8)], [], [.inl 3]), ([(4, cI 2 2), (0, cR 0), (1, cI 0 7), (2, cI 0 7), (3, cI 0 3), (5, cI 1 1), (6, cI 0 0), (7, cI 0 1), (8, cI 0 1)], [], [((15, 4), 1, 8)], [], [.inl 2]), ([(4, cI 3 3), (0, cR 0), (1, cI 0 7), (2, cI 0 7), (3, cI 0 7), (5, cI 0 0), (6, cI 1 1), (7, cI 0 1), (8, cI 0 1)], [], [((15, 4), 1, 8)], [], [.inl 1]), ([(4, cI 4 4), (0, cR 0), (1, cI 0 7), (2, cI 0 7), (3, cI 0 15), (5, cI 1 1), (6, cI 1 1), (7, cI 0 1), (8, cI 0 1)], [], [((15, 4), 1, 8)], [], [.inl 0])])]) (spl := []) (K := [0, 1, 2]) (N := 60) (sums := [S763, S587]) aiX8_rests (abX8_rests w0) (by decide) (List.forall_mem_cons.mpr ⟨sum_up q763 0, List.forall_mem_cons.mpr ⟨sum_up q587 4, fun _ h => absurd h List.not_mem_nil⟩⟩) (by decide +kernel)
noncomputable def S764 : Sum1 := (112, [cR 0, cI (-2147483648) 2147483647, cI (-2147483648) 2147483647, cI (-2147483648) 2147483647, cI (-2147483648) 2147483647], [], [], [(62, 1, 3), (63, 0, 7), (75, 0, 7)], [([cR 0, cI (-2147483648) 2147483647, cI (-2147483648) 2147483647, cI (-2147483648) 2147483647, cI (-2147483648) 2147483647], [], [], some (.inl (cI (-1000) 10)))])
theorem q764 : sum_g w0 (pm_Rt pm_P 7) S764 := meth_okB (d := 6) (cuts := []) (spl := []) (K := [0, 1, 2, 3, 4]) (N := 19) (sums := [S763, S110, S587]) aiX8_gets (abX8_gets w0) (by decide) (List.forall_mem_cons.mpr ⟨sum_up q763 0, List.forall_mem_cons.mpr ⟨sum_up q110 5, List.forall_mem_cons.mpr ⟨sum_up q587 4, fun _ h => absurd h List.not_mem_nil⟩⟩⟩) (by decide +kernel)
noncomputable def S765 : Sum1 := (313, [cI 1 1, cI (-1) 8], [], [], [], [([cI 1 1, cI (-1) 0], [], [], some (.inl (cI 1 1))), ([cI 1 1, cI 1 8], [], [], some (.inl (cI 1 8)))])
theorem q765 : sum_g w0 (pm_Rt pm_P 1) S765 := meth_okB (d := 0) (cuts := []) (spl := []) (K := [0, 1]) (N := 7) (sums := []) aiX9_moreOf (abX9_moreOf w0) (by decide) (fun _ h => absurd h List.not_mem_nil) (by decide +kernel)
noncomputable def S766 : Sum1 := (255, [cR 77, cI 0 7, cI 0 7, cI 0 7, cI 0 1, cI 0 1], [], [125], [(77, 22, 23), (77, 27, 27), (89, 0, 7), (90, 0, 9), (91, 0, 7)], [([cR 77, cI 0 7, cI 0 7, cI 0 7, cI 0 1, cI 0 1], [((77, 23), 0, 255)], [], some (.inl (cI (-1) 10)))])
theorem q766 : sum_g w0 (pm_Rt pm_P 5) S766 := meth_okB (d := 4) (cuts := []) (spl := []) (K := [0, 1, 2, 3, 4, 5]) (N := 49) (sums := [S118, S149, S156, S765]) aiX9_getsBy (abX9_getsBy w0) (by decide) (List.forall_mem_cons.mpr ⟨sum_up q118 2, List.forall_mem_cons.mpr ⟨sum_up q149 0, List.forall_mem_cons.mpr ⟨sum_up q156 2, List.forall_mem_cons.mpr ⟨sum_up q765 3, fun _ h => absurd h List.not_mem_nil⟩⟩⟩⟩) (by decide +kernel)
noncomputable def S761 : Sum1 := (334, [cR 77, cI (-2147483648) 2147483647, cI (-2147483648) 2147483647], [], [125], [(77, 0, 0), (77, 22, 23), (77, 27, 27), (89, 0, 7), (90, 0, 9), (91, 0, 7)], [([cR 77, cI (-2147483648) 2147483647, cI (-2147483648) 2147483647], [], [], some (.inl (cI (-2) 15)))])
theorem q761 : sum_g w0 (pm_Rt pm_P 6) S761 := meth_okB (d := 5) (cuts := [(22, [([(4, cI 0 0), (0, cR 77), (1, cI 0 7), (2, cI 0 7), (3, cI 0 0)], [], [((77, 0), 0, 0)], [125], [.inl 4]), ([(4, cI 1 1), (0, cR 77), (1, cI 0 7), (2, cI 0 7), (3, cI 0 1), (5, cI 0 0), (6, cI 0 0), (7, cI 0 1)], [], [((77, 0), 0, 0), ((77, 23), 0, 255)], [125], [.inl 3]), ([(4, cI 2 2), (0, cR 77), (1, cI 0 7), (2, cI 0 7), (3, cI 0 3), (5, cI 1 1), (6, cI 0 0), (7, cI 0 1)], [], [((77, 0), 0, 0), ((77, 23), 0, 255)], [125], [.inl 2]), ([(4, cI 3 3), (0, cR 77), (1, cI 0 7), (2, cI 0 7), (3, cI 0 7), (5, cI 0 0), (6, cI 1 1), (7, cI 0 1)], [], [((77, 0), 0, 0), ((77, 23), 0, 255)], [125], [.inl 1]), ([(4, cI 4 4), (0, cR 77), (1, cI 0 7), (2, cI 0 7), (3, cI 0 15), (5, cI 1 1), (6, cI 1 1), (7, cI 0 1)], [], [((77, 0), 0, 0), ((77, 23), 0, 255)], [125], [.inl 0])])]) (spl := []) (K := [0, 1, 2]) (N := 60) (sums := [S766, S594]) aiX9_rests (abX9_rests w0) (by decide) (List.forall_mem_cons.mpr ⟨sum_up q766 0, List.forall_mem_cons.mpr ⟨sum_up q594 2, fun _ h => absurd h List.not_mem_nil⟩⟩) (by decide +kernel)
noncomputable def S767 : Sum1 := (254, [cR 77, cI (-2147483648) 2147483647, cI (-2147483648) 2147483647, cI (-2147483648) 2147483647, cI (-2147483648) 2147483647], [], [125], [(77, 0, 0), (77, 22, 23), (77, 27, 27), (89, 0, 7), (90, 0, 9), (91, 0, 7)], [([cR 77, cI (-2147483648) 2147483647, cI (-2147483648) 2147483647, cI (-2147483648) 2147483647, cI (-2147483648) 2147483647], [], [], some (.inl (cI (-1000) 10)))])
theorem q767 : sum_g w0 (pm_Rt pm_P 6) S767 := meth_okB (d := 5) (cuts := []) (spl := []) (K := [0, 1, 2, 3, 4]) (N := 24) (sums := [S766, S116, S594]) aiX9_gets (abX9_gets w0) (by decide) (List.forall_mem_cons.mpr ⟨sum_up q766 0, List.forall_mem_cons.mpr ⟨sum_up q116 3, List.forall_mem_cons.mpr ⟨sum_up q594 2, fun _ h => absurd h List.not_mem_nil⟩⟩⟩) (by decide +kernel)
noncomputable def S768 : Sum1 := (42, [cR 72, cR 17, cI 1 8, cI 0 8, cI 0 3], [], [], [(73, 0, 255), (74, 0, 255)], [([cR 72, cR 17, cI 1 8, cI 0 8, cI 0 3], [((73, 0), 0, 0), ((74, 0), 0, 0)], [], none)])
theorem q768 : sum_g w0 (pm_Rt pm_P 4) S768 := meth_okB (d := 3) (cuts := [(17, [([(0, cR 72), (1, cR 17), (2, cI 1 8), (3, cI 0 8), (4, cI 0 3), (5, cI 0 8)], [], [((73, 0), 0, 0), ((74, 0), 0, 0)], [], [.inl 0, .inr (.inl 5, true), .inl 1])]), (26, [([(0, cR 72), (1, cR 17), (2, cI 1 8), (3, cI 0 8), (4, cI 0 3), (5, cI 0 7), (6, cI 0 128)], [], [((73, 0), 0, 0), ((74, 0), 0, 0)], [], [.inl 0, .inr (.inl 5, true), .inl 0, .inr (.inl 6, true), .inl 0])])]) (spl := []) (K := [0, 1, 2, 3, 4]) (N := 55) (sums := [S132, S133, S131]) aiX3_fill (abX3_fill w0) (by decide) (List.forall_mem_cons.mpr ⟨sum_up q132 2, List.forall_mem_cons.mpr ⟨sum_up q133 2, List.forall_mem_cons.mpr ⟨sum_up q131 0, fun _ h => absurd h List.not_mem_nil⟩⟩⟩) (by decide +kernel)
noncomputable def S769 : Sum1 := (7, [cI 0 127], [], [], [], [([cI 0 127], [], [], some (.inl (cI 2 7))), ([cI 0 127], [], [], some (.inl (cI 1 1))), ([cI 0 127], [], [], some (.inl (cI 0 0)))])
theorem q769 : sum_g w0 (pm_Rt pm_P 1) S769 := bc_sum (hi := 127) (k := 7) (by decide) (by decide +kernel)
noncomputable def S770 : Sum1 := (161, [cI 0 10, cI 0 0], [], [], [], [([cI 0 10, cI 0 0], [], [], some (.inl (cL 1 1)))])
theorem q770 : sum_g w0 (pm_Rt pm_P 1) S770 := meth_okB (d := 0) (cuts := [(5, [([(0, cI 0 10), (1, cI 0 0), (2, cL 1 1), (4, cI 0 0)], [], [], [], [.inl 0])])]) (spl := []) (K := [0, 1]) (N := 6) (sums := []) aiX8_power (abX8_power w0) (by decide) (fun _ h => absurd h List.not_mem_nil) (by decide +kernel)
noncomputable def S771 : Sum1 := (161, [cI 0 10, cI 0 7], [], [], [], [([cI 0 10, cI 0 7], [], [], some (.inl (cL (-9223372036854775808) 9223372036854775807)))])
theorem q771 : sum_g w0 (pm_Rt pm_P 1) S771 := meth_okB (d := 0) (cuts := [(5, [([(0, cI 0 10), (1, cI 0 7), (2, cL (-9223372036854775808) 9223372036854775807), (4, cI 0 7)], [], [], [], [.inl 0, .inr (.inl 4, true), .inl 0])])]) (spl := []) (K := [0, 1]) (N := 11) (sums := []) aiX8_power (abX8_power w0) (by decide) (fun _ h => absurd h List.not_mem_nil) (by decide +kernel)
noncomputable def S772 : Sum1 := (161, [cI 0 10, cI 1 1], [], [], [], [([cI 0 10, cI 1 1], [], [], some (.inl (cL (-9223372036854775808) 9223372036854775807)))])
theorem q772 : sum_g w0 (pm_Rt pm_P 1) S772 := meth_okB (d := 0) (cuts := [(5, [([(0, cI 0 10), (1, cI 1 1), (2, cL (-9223372036854775808) 9223372036854775807), (4, cI 0 1)], [], [], [], [.inl 0, .inr (.inl 4, true), .inl 0])])]) (spl := []) (K := [0, 1]) (N := 11) (sums := []) aiX8_power (abX8_power w0) (by decide) (fun _ h => absurd h List.not_mem_nil) (by decide +kernel)
noncomputable def S773 : Sum1 := (161, [cI 0 10, cI (-1) 6], [], [], [], [([cI 0 10, cI (-1) 6], [], [], some (.inl (cL (-9223372036854775808) 9223372036854775807)))])
theorem q773 : sum_g w0 (pm_Rt pm_P 1) S773 := meth_okB (d := 0) (cuts := [(5, [([(0, cI 0 10), (1, cI (-1) 6), (2, cL (-9223372036854775808) 9223372036854775807), (4, cI 0 6)], [], [], [], [.inl 0, .inr (.inl 4, true), .inl 0])])]) (spl := []) (K := [0, 1]) (N := 11) (sums := []) aiX8_power (abX8_power w0) (by decide) (fun _ h => absurd h List.not_mem_nil) (by decide +kernel)
noncomputable def S774 : Sum1 := (161, [cI 0 10, cI 2 7], [], [], [], [([cI 0 10, cI 2 7], [], [], some (.inl (cL (-9223372036854775808) 9223372036854775807)))])
theorem q774 : sum_g w0 (pm_Rt pm_P 1) S774 := meth_okB (d := 0) (cuts := [(5, [([(0, cI 0 10), (1, cI 2 7), (2, cL (-9223372036854775808) 9223372036854775807), (4, cI 0 7)], [], [], [], [.inl 0, .inr (.inl 4, true), .inl 0])])]) (spl := []) (K := [0, 1]) (N := 11) (sums := []) aiX8_power (abX8_power w0) (by decide) (fun _ h => absurd h List.not_mem_nil) (by decide +kernel)
noncomputable def S775 : Sum1 := (161, [cI 0 10, cI (-7) 5], [], [], [], [([cI 0 10, cI (-7) 5], [], [], some (.inl (cL (-9223372036854775808) 9223372036854775807)))])
theorem q775 : sum_g w0 (pm_Rt pm_P 1) S775 := meth_okB (d := 0) (cuts := [(5, [([(0, cI 0 10), (1, cI (-7) 5), (2, cL (-9223372036854775808) 9223372036854775807), (4, cI 0 5)], [], [], [], [.inl 0, .inr (.inl 4, true), .inl 0])])]) (spl := []) (K := [0, 1]) (N := 11) (sums := []) aiX8_power (abX8_power w0) (by decide) (fun _ h => absurd h List.not_mem_nil) (by decide +kernel)
noncomputable def S776 : Sum1 := (176, [cR 0, cI 0 127, cI 0 7], [], [], [], [([cR 0, cI 0 127, cI 0 7], [], [], some (.inl (cL (-9223372036854775808) 9223372036854775807)))])
theorem q776 : sum_g w0 (pm_Rt pm_P 2) S776 := meth_okB (d := 1) (cuts := []) (spl := []) (K := [0, 1, 2]) (N := 20) (sums := [S770, S772, S774, S771, S773, S775, S769]) aiX8_setWeight (abX8_setWeight w0) (by decide) (List.forall_mem_cons.mpr ⟨sum_up q770 0, List.forall_mem_cons.mpr ⟨sum_up q772 0, List.forall_mem_cons.mpr ⟨sum_up q774 0, List.forall_mem_cons.mpr ⟨sum_up q771 0, List.forall_mem_cons.mpr ⟨sum_up q773 0, List.forall_mem_cons.mpr ⟨sum_up q775 0, List.forall_mem_cons.mpr ⟨sum_up q769 0, fun _ h => absurd h List.not_mem_nil⟩⟩⟩⟩⟩⟩⟩) (by decide +kernel)
noncomputable def S777 : Sum1 := (161, [cI 10 10, cI 1 8], [], [], [], [([cI 10 10, cI 1 8], [], [], some (.inl (cL (-9223372036854775808) 9223372036854775807)))])
theorem q777 : sum_g w0 (pm_Rt pm_P 1) S777 := meth_okB (d := 0) (cuts := [(5, [([(0, cI 10 10), (1, cI 1 8), (2, cL (-9223372036854775808) 9223372036854775807), (4, cI 0 8)], [], [], [], [.inl 0, .inr (.inl 4, true), .inl 0])])]) (spl := []) (K := [0, 1]) (N := 11) (sums := []) aiX8_power (abX8_power w0) (by decide) (fun _ h => absurd h List.not_mem_nil) (by decide +kernel)
noncomputable def S778 : Sum1 := (190, [cL (-9223372036854775808) 9223372036854775807, cL (-9223372036854775808) 9223372036854775807, cI 0 1], [], [], [], [([cL (-9223372036854775808) 9223372036854775807, cL (-9223372036854775808) 9223372036854775807, cI 0 1], [], [], some (.inl (cL (-9223372036854775808) 9223372036854775807)))])
theorem q778 : sum_g w0 (pm_Rt pm_P 2) S778 := meth_okB (d := 1) (cuts := [(12, [([(0, cL (-9223372036854775808) 9223372036854775807), (2, cL (-9223372036854775808) 9223372036854775807), (4, cI 0 1), (5, cL (-9223372036854775808) 9223372036854775807), (7, cL (-9223372036854775808) 9223372036854775807), (9, cI 0 100)], [], [], [], [.inl 0, .inr (.inl 9, true), .inl 0])])]) (spl := []) (K := [0, 2, 4]) (N := 19) (sums := [S714]) aiX8_term (abX8_term w0) (by decide) (List.forall_mem_cons.mpr ⟨sum_up q714 0, fun _ h => absurd h List.not_mem_nil⟩) (by decide +kernel)
noncomputable def S779 : Sum1 := (91, [cR 0, cI (-2147483648) 2147483647, cI (-2147483648) 2147483647], [], [], [(73, 0, 255), (74, 0, 255)], [([cR 0, cI (-2147483648) 2147483647, cI (-2147483648) 2147483647], [], [], some (.inl (cI (-2147483648) 2147483647)))])
theorem q779 : sum_g w0 (pm_Rt pm_P 5) S779 := meth_okB (d := 4) (cuts := [(58, [([(0, cR 0), (1, cI 0 7), (2, cI 0 1), (3, cL (-9223372036854775808) 9223372036854775807), (5, cI 0 128)], [], [((15, 0), 0, 8), ((15, 1), 0, 3), ((15, 4), 1, 8), ((73, 0), 0, 0), ((74, 0), 0, 0)], [], [.inl 0, .inr (.inl 5, true), .inl 0])])]) (spl := []) (K := [0, 1, 2]) (N := 32) (sums := [S777, S768, S776, S121, S109, S110, S778]) aiX8_chance (abX8_chance w0) (by decide) (List.forall_mem_cons.mpr ⟨sum_up q777 3, List.forall_mem_cons.mpr ⟨sum_up q768 0, List.forall_mem_cons.mpr ⟨sum_up q776 2, List.forall_mem_cons.mpr ⟨sum_up q121 3, List.forall_mem_cons.mpr ⟨sum_up q109 3, List.forall_mem_cons.mpr ⟨sum_up q110 3, List.forall_mem_cons.mpr ⟨sum_up q778 2, fun _ h => absurd h List.not_mem_nil⟩⟩⟩⟩⟩⟩⟩) (by decide +kernel)
end
section
/-! what is known of the methods, checked (written by emit.py) -/
noncomputable def S821 : Sum1 := (371, [cR 77, cI 0 7], [], [125], [(77, 22, 23), (77, 27, 27), (89, 0, 7), (90, 0, 9), (91, 0, 7)], [([cR 77, cI 0 7], [((77, 23), 0, 255)], [], some (.inl (cL (-9223372036854775808) 9223372036854775807)))])
/-! the reference's weightOf by hand, but for its answer (q821, q845; wants q730's text) -/
noncomputable def WYM : List Rng := [(77, 22, 23), (77, 27, 27), (89, 0, 7), (90, 0, 9), (91, 0, 7)]
theorem wy_n : ∀ n : Fin 9, pcT (2 ^ n.val - 1) ≤ n.val := by decide +kernel
theorem wy_pc {n s : Nat} (n8 : n ≤ 8) (hs : s < 2 ^ n) : pcT s ≤ n := by
  have a := List.all_eq_true.mp (List.all_eq_true.mp sy_ck n (List.mem_range.mpr (by first | decide | with_reducible assumption | omega))) s (List.mem_range.mpr hs)
  rw [Bool.or_eq_true] at a
  rcases a with a | a
  · exact Nat.le_of_lt (Nat.le_of_ble_eq_true a)
  · rw [Nat.eq_of_beq_eq_true a]; exact wy_n ⟨n, by omega⟩
theorem wy_ret {look : Nat → Option pm_I} {call : pm_Call} {Q : pm_H → Option Value → Prop} {pc : Nat} {lv : List (Nat × Value)} {h : pm_H} {z : Nat × Nat} {v : Int64} (h1 : look pc = some (.inr (.inr 3))) (hq : Q h (some (.long v))) : Ends look call (pc, lv, [.long v], h, z) Q := ⟨h, some (.long v), Go_ret h1 ⟨v, rfl, rfl⟩, hq⟩
section WYH
variable {h : pm_H}
theorem wy_power {o : Int64} : ∀ (n : Nat), n ≤ 9 → ∀ {d : Nat}, Sp (d + n + 1) 326 h [.long o, .int (nJ n)] (fun h' r => h' = h ∧ ∃ v : Int64, r = some (.long v))
  | 0, _, d => by
    refine Sp_of aiX9_power rfl rfl rfl ?_
    have L2 : pm_get (lv_args 0 [.long o, .int (nJ 0)]) 2 = some (.int (nJ 0)) := rfl
    generalize lv_args 0 [.long o, .int (nJ 0)] = lv at L2 ⊢
    refine E_il rfl L2 ?_
    refine E_ifF rfl (by decide) ?_
    refine E_c rfl ?_
    refine E_goto rfl ?_
    exact wy_ret rfl ⟨rfl, _, rfl⟩
  | n + 1, hn, d => by
    refine Sp_of aiX9_power rfl rfl rfl ?_
    have L0 : pm_get (lv_args 0 [.long o, .int (nJ (n + 1))]) 0 = some (.long o) := rfl
    have L2 : pm_get (lv_args 0 [.long o, .int (nJ (n + 1))]) 2 = some (.int (nJ (n + 1))) := rfl
    generalize lv_args 0 [.long o, .int (nJ (n + 1))] = lv at L0 L2 ⊢
    refine E_il rfl L2 ?_
    refine E_ifT rfl (decide_eq_true (fun q => absurd ((nJ_eq0 (by first | decide | with_reducible assumption | omega)).mp q) (by first | decide | with_reducible assumption | omega))) ?_
    refine E_ll rfl L0 ?_
    refine E_ll rfl L0 ?_
    refine E_il rfl L2 ?_
    refine E_ci 1 rfl ci1 ?_
    refine E_bin rfl (show nJ (n + 1) - nJ 1 = nJ n from nJ_sub (by first | decide | with_reducible assumption | omega)) ?_
    refine E_call rfl (wy_power n (by first | decide | with_reducible assumption | omega) (d := d)) (chkS rfl (by show 2 ≤ 8; decide)) (fun h1 r1 => ?_)
    rintro ⟨e1, v, f1⟩
    rw [e1, f1]
    refine sy_lb rfl ?_
    exact wy_ret rfl ⟨rfl, _, rfl⟩
theorem wy_now (hh : HH h) : Sp 9 356 h [.ref 77] (fun h' r => HH h' ∧ fr_g [] h h' ∧ ∃ v : Int32, r = some (.int v)) := by
  refine Sp_le (by first | exact Nat.add_le_add_left (Nat.le_of_ble_eq_true rfl) _ | exact Nat.le_of_ble_eq_true rfl | omega) (?_ : Sp 3 356 h [.ref 77] _)
  obtain ⟨h', r, p, a, b, C, hC, c⟩ := q172 h [.ref 77] hh ⟨rfl, trivial⟩ (fun _ hq => absurd hq List.not_mem_nil) (fun _ hq => absurd hq List.not_mem_nil)
  cases List.mem_singleton.mp hC
  refine ⟨h', r, p, a, b, ?_⟩
  obtain ⟨-, -, -, c3⟩ := c
  have c4 : rv_g h' (some (.inl (cI (-2147483648) 2147483647))) r := c3
  cases r with
  | none => exact c4.elim
  | some v => cases v with
    | int v => exact ⟨v, rfl⟩
    | _ => exact c4.elim
theorem wy_parks {x : Int32} (hh : HH h) (x0 : 0 ≤ x.toInt) (x3 : x.toInt ≤ 3) : Sp 9 320 h [.ref 77, .int x] (fun h' r => r = none ∧ HH h' ∧ fr_g [(77, 27, 27), (90, 0, 9), (91, 0, 7)] h h') := by
  obtain ⟨h', r, p, a, b, C, hC, c⟩ := sum_up q149 5 h [.ref 77, .int x] hh ⟨rfl, ⟨x0, x3⟩, trivial⟩ (fun _ hq => absurd hq List.not_mem_nil) (fun _ hq => absurd hq List.not_mem_nil)
  cases List.mem_singleton.mp hC
  refine ⟨h', r, p, ?_, a, b⟩
  obtain ⟨-, -, -, c3⟩ := c
  have c4 : rv_g h' none r := c3
  cases r with
  | none => rfl
  | some v => exact c4.elim
theorem wy_cell (hh : HH h) (hm : mm_g h [((77, 23), 0, 255)]) : 0 ≤ (gi h 77 23).toInt ∧ (gi h 77 23).toInt ≤ 255 := by
  obtain ⟨x, e, a, b⟩ := hm _ List.mem_cons_self
  have e2 := (ld_gi hh (a := 77) (k := 23) rfl).1
  have e3 : ld h 77 23 = some (.int x) := e
  rw [e3] at e2
  injection e2 with e2
  injection e2 with e2
  subst e2
  exact ⟨a, b⟩
theorem wy_lays (hh : HH h) (F : w0.1.2.1 125 h) : Sp 9 293 h [.ref 77] (fun h' r => r = none ∧ HH h' ∧ fr_g [(77, 22, 23), (89, 0, 7)] h h' ∧ 0 ≤ (gi h' 77 23).toInt ∧ (gi h' 77 23).toInt ≤ 255) := by
  obtain ⟨h', r, p, a, b, C, hC, c⟩ := sum_up q118 7 h [.ref 77] hh ⟨rfl, trivial⟩ (fun _ hq => absurd hq List.not_mem_nil) (fun i hi => by rw [List.mem_singleton.mp hi]; exact F)
  cases List.mem_singleton.mp hC
  obtain ⟨-, c2, -, c3⟩ := c
  refine ⟨h', r, p, ?_, a, b, wy_cell a c2⟩
  have c4 : rv_g h' none r := c3
  cases r with
  | none => rfl
  | some v => exact c4.elim
theorem wy_loop {x : Int32} {n : Nat} (n8 : n ≤ 8) (hx : x = -1 ∨ (0 ≤ x.toInt ∧ x.toInt ≤ 7)) (j : Nat) : ∀ {g : pm_H} {s : Nat} {z : Int64} (lv : List (Nat × Value)), s + j = 2 ^ n → HH g → gi g 84 3 = nJ n → 0 ≤ (gi g 77 23).toInt ∧ (gi g 77 23).toInt ≤ 255 → pm_get lv 0 = some (.ref 77) → pm_get lv 1 = some (.int x) → pm_get lv 2 = some (.long z) → pm_get lv 4 = some (.int (nJ s)) → Ends (pm_at tX9_weightOf) (pm_Rt pm_P 9) (9, lv, [], g, 0, 0) (fun h' r => HH h' ∧ fr_g WYM g h' ∧ (0 ≤ (gi h' 77 23).toInt ∧ (gi h' 77 23).toInt ≤ 255) ∧ ∃ v : Int64, r = some (.long v)) := by
  have q8 : 2 ^ n ≤ 2 ^ 8 := Nat.pow_le_pow_right (by first | decide | with_reducible assumption | omega) n8
  have c9 : ∀ {g : pm_H}, gi g 84 3 = nJ n → gn g 84 3 = n := fun {g} e => by
    show (gi g 84 3).toInt.toNat = n
    rw [e, nJ_toInt (by first | decide | with_reducible assumption | omega)]; rfl
  have sh : nJ 1 <<< (nJ n &&& 31) = nJ (2 ^ n) := bl_shl ⟨n, by omega⟩
  induction j with
  | zero =>
    intro g s z lv hj hg g4 cm L0 L1 L2 L4
    refine E_il rfl L4 ?_
    refine E_ci 1 rfl ci1 ?_
    refine E_al rfl L0 ?_
    refine E_call rfl (Sp_le (by first | exact Nat.add_le_add_left (Nat.le_of_ble_eq_true rfl) _ | exact Nat.le_of_ble_eq_true rfl | omega) (sp_cars (d := 0) hg)) (chk77 hg rfl rfl (by show 2 ≤ 8; decide)) (fun h1 r1 => ?_)
    rintro ⟨e1, f1, -⟩
    rw [e1, f1, c9 g4]
    refine E_bin rfl sh ?_
    refine E_icT rfl (decide_eq_true ((nJ_le (by first | decide | with_reducible assumption | omega) (by first | decide | with_reducible assumption | omega)).mpr (by first | decide | with_reducible assumption | omega))) ?_
    refine E_ll rfl L2 ?_
    exact wy_ret rfl ⟨hg, fr_rf _ _, cm, _, rfl⟩
  | succ j ih =>
    intro g s z lv hj hg g4 cm L0 L1 L2 L4
    have hs : s < 2 ^ n := by omega
    have pl := wy_pc n8 hs
    refine E_il rfl L4 ?_
    refine E_ci 1 rfl ci1 ?_
    refine E_al rfl L0 ?_
    refine E_call rfl (Sp_le (by first | exact Nat.add_le_add_left (Nat.le_of_ble_eq_true rfl) _ | exact Nat.le_of_ble_eq_true rfl | omega) (sp_cars (d := 0) hg)) (chk77 hg rfl rfl (by show 2 ≤ 8; decide)) (fun h1 r1 => ?_)
    rintro ⟨e1, f1, -⟩
    rw [e1, f1, c9 g4]
    refine E_bin rfl sh ?_
    refine E_icF rfl (decide_eq_false (fun z => absurd ((nJ_le (by first | decide | with_reducible assumption | omega) (by first | decide | with_reducible assumption | omega)).mp z) (by first | decide | with_reducible assumption | omega))) ?_
    refine E_al rfl L0 ?_
    refine E_il rfl L4 ?_
    refine E_pf rfl hg rfl ?_
    have h3 : HH (pt g 77 23 (nJ s)) := HH_pt hg rfl (ai_lo _) (ai_hi _)
    have q3 : gi (pt g 77 23 (nJ s)) 77 23 = nJ s := gi_pt hg rfl (ai_lo _) (ai_hi _)
    have f3 : fr_g WYM g (pt g 77 23 (nJ s)) := fr_ptr (l := 22) (u := 23) rfl (by decide) (by decide) (fr_rf _ _)
    generalize pt g 77 23 (nJ s) = g3 at h3 q3 f3 ⊢
    have lw := ld_gi h3 (a := 77) (k := 22) (q := (0, 3)) rfl
    refine E_al rfl L0 ?_
    refine E_al rfl L0 ?_
    refine E_gf (q := (0, 3)) rfl h3 rfl rfl ?_
    refine E_call rfl (wy_parks h3 lw.2.1 lw.2.2) (chk77 h3 rfl rfl (by show 0 ≤ 8; decide)) (fun h4 r4 => ?_)
    rintro ⟨e4, hh4, f4⟩
    rw [e4]
    have f5 : fr_g WYM g h4 := fr_trans f3 (fr_wk rfl f4)
    have g5 : gi h4 84 3 = nJ n := by rw [fr_gi f5 rfl]; exact g4
    have cm4 : 0 ≤ (gi h4 77 23).toInt ∧ (gi h4 77 23).toInt ≤ 255 := by
      rw [fr_gi f4 rfl, q3, nJ_toInt (by first | decide | with_reducible assumption | omega)]
      omega
    refine E_al rfl L0 ?_
    refine E_gr rfl hh4 (q := 84) rfl ?_
    refine E_ci 2 rfl ci2 ?_
    refine E_ial rfl hh4 rfl (by decide) (by decide) rfl ?_
    refine sy_i2l rfl ?_
    refine E_il rfl L4 ?_
    refine E_call rfl (Sp_le (by first | exact Nat.add_le_add_left (Nat.le_of_ble_eq_true rfl) _ | exact Nat.le_of_ble_eq_true rfl | omega) (sp_sizeOf (d := 0) (m := s) (by first | decide | with_reducible assumption | omega))) (chkS rfl (by show 2 ≤ 8; decide)) (fun h5 r5 => ?_)
    rintro ⟨e5, f5'⟩
    rw [e5, f5']
    refine E_call rfl (Sp_le (by first | exact Nat.add_le_add_left (Nat.le_of_ble_eq_true rfl) _ | exact Nat.le_of_ble_eq_true rfl | omega) (wy_power (h := h4) (pcT s) (by first | decide | with_reducible assumption | omega) (d := 0))) (chkS rfl (by show 0 ≤ 8; decide)) (fun h6 r6 => ?_)
    rintro ⟨e6, v6, f6⟩
    rw [e6, f6]
    refine E_c rfl ?_
    refine E_al rfl L0 ?_
    refine E_gr rfl hh4 (q := 84) rfl ?_
    refine E_ci 2 rfl ci2 ?_
    refine E_ial rfl hh4 rfl (by decide) (by decide) rfl ?_
    refine sy_i2l rfl ?_
    refine sy_lb rfl ?_
    refine E_al rfl L0 ?_
    refine E_call rfl (Sp_le (by first | exact Nat.add_le_add_left (Nat.le_of_ble_eq_true rfl) _ | exact Nat.le_of_ble_eq_true rfl | omega) (sp_cars (d := 0) hh4)) (chk77 hh4 rfl rfl (by show 4 ≤ 8; decide)) (fun h7 r7 => ?_)
    rintro ⟨e7, f7, -⟩
    rw [e7, f7, c9 g5]
    refine E_il rfl L4 ?_
    refine E_call rfl (Sp_le (by first | exact Nat.add_le_add_left (Nat.le_of_ble_eq_true rfl) _ | exact Nat.le_of_ble_eq_true rfl | omega) (sp_sizeOf (d := 0) (m := s) (by first | decide | with_reducible assumption | omega))) (chkS rfl (by show 5 ≤ 8; decide)) (fun h8 r8 => ?_)
    rintro ⟨e8, f8⟩
    rw [e8, f8]
    refine E_bin rfl (nJ_sub pl) ?_
    refine E_call rfl (Sp_le (by first | exact Nat.add_le_add_left (Nat.le_of_ble_eq_true rfl) _ | exact Nat.le_of_ble_eq_true rfl | omega) (wy_power (h := h4) (n - pcT s) (by first | decide | with_reducible assumption | omega) (d := 0))) (chkS rfl (by show 2 ≤ 8; decide)) (fun h9 r9 => ?_)
    rintro ⟨e9, v9, f9⟩
    rw [e9, f9]
    refine sy_lb rfl ?_
    refine sy_ls rfl (fun lv1 K5 kp => ?_)
    have A0 := kp 0 _ (nbz rfl) (nbz rfl) (fun q => absurd q (nbz rfl)) L0
    have A1 := kp 1 _ (nbz rfl) (nbz rfl) (fun q => absurd q (nbz rfl)) L1
    have A2 := kp 2 _ (nbz rfl) (nbz rfl) (fun q => absurd q (nbz rfl)) L2
    have A4 := kp 4 _ (nbz rfl) (nbz rfl) (fun _ => rfl) L4
    refine E_ll rfl A2 ?_
    refine E_ll rfl K5 ?_
    have nx : ∀ {gg : pm_H} {v : Int32} {u t : Int64}, HH gg → fr_g WYM g gg → gi gg 84 3 = nJ n → 0 ≤ (gi gg 77 23).toInt ∧ (gi gg 77 23).toInt ≤ 255 → Ends (pm_at tX9_weightOf) (pm_Rt pm_P 9) (111, lv1, [.int v, .long u, .long t], gg, 0, 0) (fun h' r => HH h' ∧ fr_g WYM g h' ∧ (0 ≤ (gi h' 77 23).toInt ∧ (gi h' 77 23).toInt ≤ 255) ∧ ∃ v : Int64, r = some (.long v)) := by
      intro gg v u t hgg fgg g6 cm6
      refine sy_i2l rfl ?_
      refine sy_lb rfl ?_
      refine sy_lb rfl ?_
      refine sy_ls rfl (fun lv2 K2 kp2 => ?_)
      refine sy_inc rfl (kp2 4 _ (nbz rfl) (nbz rfl) (fun q => absurd q (nbz rfl)) A4) (nJ_inc _) (fun lv3 K4 kp3 => ?_)
      refine E_goto rfl ?_
      obtain ⟨h', r, p, a, b, c, e⟩ := ih lv3 (by first | decide | with_reducible assumption | omega) hgg g6 cm6 (kp3 0 _ (nbz rfl) (fun q => absurd q (nbz rfl)) (kp2 0 _ (nbz rfl) (nbz rfl) (fun q => absurd q (nbz rfl)) A0)) (kp3 1 _ (nbz rfl) (fun q => absurd q (nbz rfl)) (kp2 1 _ (nbz rfl) (nbz rfl) (fun _ => rfl) A1)) (kp3 2 _ (nbz rfl) (fun q => absurd q (nbz rfl)) K2) K4
      exact ⟨h', r, p, a, fr_trans fgg b, c, e⟩
    refine E_il rfl A1 ?_
    refine E_c rfl ?_
    rcases hx with rfl | ⟨x0, x7⟩
    · refine E_icF rfl (decide_eq_false (fun q => q rfl)) ?_
      refine E_al rfl A0 ?_
      refine E_call rfl (wy_now hh4) (chk77 hh4 rfl rfl (by show 4 ≤ 8; decide)) (fun ha ra => ?_)
      rintro ⟨hha, fa, v, ea⟩
      rw [ea]
      refine E_goto rfl ?_
      exact nx hha (fr_trans f5 (fr_wk rfl fa)) (by rw [fr_gi fa rfl]; exact g5) (by rw [fr_gi fa rfl]; exact cm4)
    · have xn : ¬ x = -1 := fun q => by
        rw [q] at x0
        exact absurd x0 (by decide)
      refine E_icT rfl (decide_eq_true xn) ?_
      obtain ⟨c, hc, rfl⟩ : ∃ c, c < 8 ∧ x = nJ c := ⟨x.toInt.toNat, by omega, nJ_of x0⟩
      refine E_al rfl A0 ?_
      refine E_gr rfl hh4 (q := 91) rfl ?_
      refine E_il rfl A1 ?_
      refine E_ial rfl hh4 rfl hc (by decide) rfl ?_
      refine E_al rfl A0 ?_
      refine E_gr rfl hh4 (q := 89) rfl ?_
      refine E_il rfl A1 ?_
      refine E_ial rfl hh4 rfl hc (by decide) rfl ?_
      by_cases b : gi h4 91 c = gi h4 89 c
      · refine E_icF rfl (decide_eq_false (fun q => q b)) ?_
        refine E_ci 1 rfl ci1 ?_
        refine E_goto rfl ?_
        exact nx hh4 f5 g5 cm4
      · refine E_icT rfl (decide_eq_true b) ?_
        refine E_ci 0 rfl ci0 ?_
        exact nx hh4 f5 g5 cm4
theorem wy_all {x : Int32} (hx : x = -1 ∨ (0 ≤ x.toInt ∧ x.toInt ≤ 7)) (hh : HH h) (F : w0.1.2.1 125 h) : Sp 10 371 h [.ref 77, .int x] (fun h' r => HH h' ∧ fr_g WYM h h' ∧ (0 ≤ (gi h' 77 23).toInt ∧ (gi h' 77 23).toInt ≤ 255) ∧ ∃ v : Int64, r = some (.long v)) := by
  refine Sp_of aiX9_weightOf rfl rfl rfl ?_
  have L0 : pm_get (lv_args 0 [.ref 77, .int x]) 0 = some (.ref 77) := rfl
  have L1 : pm_get (lv_args 0 [.ref 77, .int x]) 1 = some (.int x) := rfl
  generalize lv_args 0 [.ref 77, .int x] = lv at L0 L1 ⊢
  refine E_al rfl L0 ?_
  refine E_call rfl (wy_lays hh F) (chk77 hh rfl rfl (by show 0 ≤ 8; decide)) (fun h2 r2 => ?_)
  rintro ⟨e2, hh2, f2, cm⟩
  rw [e2]
  have n8 : gn h2 84 3 ≤ 8 := gn_hi hh2 rfl rfl
  have g4 : gi h2 84 3 = nJ (gn h2 84 3) := gi_gn hh2 rfl (by decide)
  have q8 : 2 ^ gn h2 84 3 ≤ 2 ^ 8 := Nat.pow_le_pow_right (by first | decide | with_reducible assumption | omega) n8
  refine E_c rfl ?_
  refine sy_ls rfl (fun lv1 K2 kp => ?_)
  refine E_ci 0 rfl ci0 ?_
  refine sy_is rfl (fun lv2 K4 kp2 => ?_)
  obtain ⟨h', r, p, a, b, c, e⟩ := wy_loop n8 hx (2 ^ gn h2 84 3) (s := 0) lv2 (by first | decide | with_reducible assumption | omega) hh2 g4 cm (kp2 0 _ (nbz rfl) (fun q => absurd q (nbz rfl)) (kp 0 _ (nbz rfl) (nbz rfl) (fun q => absurd q (nbz rfl)) L0)) (kp2 1 _ (nbz rfl) (fun q => absurd q (nbz rfl)) (kp 1 _ (nbz rfl) (nbz rfl) (fun _ => rfl) L1)) (kp2 2 _ (nbz rfl) (fun q => absurd q (nbz rfl)) K2) K4
  exact ⟨h', r, p, a, fr_trans (fr_wk rfl f2) b, c, e⟩
theorem wy_sum {lo hi : Int} (hc : ∀ x : Int32, lo ≤ x.toInt → x.toInt ≤ hi → x = -1 ∨ (0 ≤ x.toInt ∧ x.toInt ≤ 7)) : sum_g w0 (pm_Rt pm_P 10) (371, [cR 77, cI lo hi], [], [125], WYM, [([cR 77, cI lo hi], [((77, 23), 0, 255)], [], some (.inl (cL (-9223372036854775808) 9223372036854775807)))]) := by
  intro h as hh ha _ hf
  match as, ha with
  | [.ref a, .int x], ⟨h1, h2, _⟩ =>
    have h1 : a = 77 := h1
    have h2 : lo ≤ x.toInt ∧ x.toInt ≤ hi := h2
    subst h1
    obtain ⟨h', r, p1, hh', fr, cm, v, rfl⟩ := wy_all (hc x h2.1 h2.2) hh (hf 125 List.mem_cons_self)
    refine ⟨h', _, p1, hh', fr, _, List.mem_cons_self, ⟨rfl, h2, trivial⟩, fun q hq => ?_, fun _ hq => absurd hq List.not_mem_nil, al_lo v, al_hi v⟩
    cases List.mem_singleton.mp hq
    exact ⟨_, (ld_gi hh' (a := 77) (k := 23) rfl).1, cm.1, cm.2⟩
end WYH
theorem q821 : sum_g w0 (pm_Rt pm_P 10) S821 := wy_sum (fun _ a b => .inr ⟨a, b⟩)
noncomputable def S822 : Sum1 := (326, [cL 10 10, cI 0 0], [], [], [], [([cL 10 10, cI 0 0], [], [], some (.inl (cL 1 1)))])
theorem q822 : sum_g w0 (pm_Rt pm_P 1) S822 := meth_okB (d := 0) (cuts := []) (spl := []) (K := [0, 2]) (N := 6) (sums := []) aiX9_power (abX9_power w0) (by decide) (fun _ h => absurd h List.not_mem_nil) (by decide +kernel)
noncomputable def S823 : Sum1 := (326, [cL 10 10, cI 0 1], [], [], [], [([cL 10 10, cI 0 1], [], [], some (.inl (cL 1 10)))])
theorem q823 : sum_g w0 (pm_Rt pm_P 2) S823 := meth_okB (d := 1) (cuts := []) (spl := []) (K := [0, 2]) (N := 11) (sums := [S822]) aiX9_power (abX9_power w0) (by decide) (List.forall_mem_cons.mpr ⟨sum_up q822 0, fun _ h => absurd h List.not_mem_nil⟩) (by decide +kernel)
noncomputable def S824 : Sum1 := (326, [cL 10 10, cI 0 2], [], [], [], [([cL 10 10, cI 0 2], [], [], some (.inl (cL 1 100)))])
theorem q824 : sum_g w0 (pm_Rt pm_P 3) S824 := meth_okB (d := 2) (cuts := []) (spl := []) (K := [0, 2]) (N := 11) (sums := [S823]) aiX9_power (abX9_power w0) (by decide) (List.forall_mem_cons.mpr ⟨sum_up q823 0, fun _ h => absurd h List.not_mem_nil⟩) (by decide +kernel)
noncomputable def S825 : Sum1 := (326, [cL 10 10, cI 0 3], [], [], [], [([cL 10 10, cI 0 3], [], [], some (.inl (cL 1 1000)))])
theorem q825 : sum_g w0 (pm_Rt pm_P 4) S825 := meth_okB (d := 3) (cuts := []) (spl := []) (K := [0, 2]) (N := 11) (sums := [S824]) aiX9_power (abX9_power w0) (by decide) (List.forall_mem_cons.mpr ⟨sum_up q824 0, fun _ h => absurd h List.not_mem_nil⟩) (by decide +kernel)
noncomputable def S826 : Sum1 := (326, [cL 10 10, cI 0 4], [], [], [], [([cL 10 10, cI 0 4], [], [], some (.inl (cL 1 10000)))])
theorem q826 : sum_g w0 (pm_Rt pm_P 5) S826 := meth_okB (d := 4) (cuts := []) (spl := []) (K := [0, 2]) (N := 11) (sums := [S825]) aiX9_power (abX9_power w0) (by decide) (List.forall_mem_cons.mpr ⟨sum_up q825 0, fun _ h => absurd h List.not_mem_nil⟩) (by decide +kernel)
noncomputable def S827 : Sum1 := (326, [cL 10 10, cI 0 5], [], [], [], [([cL 10 10, cI 0 5], [], [], some (.inl (cL 1 100000)))])
theorem q827 : sum_g w0 (pm_Rt pm_P 6) S827 := meth_okB (d := 5) (cuts := []) (spl := []) (K := [0, 2]) (N := 11) (sums := [S826]) aiX9_power (abX9_power w0) (by decide) (List.forall_mem_cons.mpr ⟨sum_up q826 0, fun _ h => absurd h List.not_mem_nil⟩) (by decide +kernel)
noncomputable def S828 : Sum1 := (326, [cL 10 10, cI 0 6], [], [], [], [([cL 10 10, cI 0 6], [], [], some (.inl (cL 1 1000000)))])
theorem q828 : sum_g w0 (pm_Rt pm_P 7) S828 := meth_okB (d := 6) (cuts := []) (spl := []) (K := [0, 2]) (N := 11) (sums := [S827]) aiX9_power (abX9_power w0) (by decide) (List.forall_mem_cons.mpr ⟨sum_up q827 0, fun _ h => absurd h List.not_mem_nil⟩) (by decide +kernel)
noncomputable def S829 : Sum1 := (326, [cL 10 10, cI 0 7], [], [], [], [([cL 10 10, cI 0 7], [], [], some (.inl (cL 1 10000000)))])
theorem q829 : sum_g w0 (pm_Rt pm_P 8) S829 := meth_okB (d := 7) (cuts := []) (spl := []) (K := [0, 2]) (N := 11) (sums := [S828]) aiX9_power (abX9_power w0) (by decide) (List.forall_mem_cons.mpr ⟨sum_up q828 0, fun _ h => absurd h List.not_mem_nil⟩) (by decide +kernel)
noncomputable def S830 : Sum1 := (326, [cL 10 10, cI 0 8], [], [], [], [([cL 10 10, cI 0 8], [], [], some (.inl (cL 1 100000000)))])
theorem q830 : sum_g w0 (pm_Rt pm_P 9) S830 := meth_okB (d := 8) (cuts := []) (spl := []) (K := [0, 2]) (N := 11) (sums := [S829]) aiX9_power (abX9_power w0) (by decide) (List.forall_mem_cons.mpr ⟨sum_up q829 0, fun _ h => absurd h List.not_mem_nil⟩) (by decide +kernel)
noncomputable def S831 : Sum1 := (21, [cI 1 8, cI 0 511, cI 3 9], [], [], [], [([cI 3 8, cI 0 511, cI 3 9], [], [], some (.inl (cI 3 8))), ([cI 1 8, cI 0 511, cI 3 9], [], [], some (.inl (cI 0 0)))])
theorem q831 : sum_g w0 (pm_Rt pm_P 2) S831 := meth_okB (d := 1) (cuts := [(2, [([(0, cI 1 8), (1, cI 0 511), (2, cI 3 9), (3, cI 3 9)], [], [], [], [.inl 0, .inr (.inl 3, true), .inl 0])])]) (spl := []) (K := [0, 1, 2]) (N := 10) (sums := [S123]) aiX1_firstFree (abX1_firstFree w0) (by decide) (List.forall_mem_cons.mpr ⟨sum_up q123 0, fun _ h => absurd h List.not_mem_nil⟩) (by decide +kernel)
noncomputable def S832 : Sum1 := (21, [cI 1 8, cI 0 511, cI 1 2], [], [], [], [([cI 1 8, cI 0 511, cI 1 2], [], [], some (.inl (cI 1 8))), ([cI 1 8, cI 0 511, cI 1 2], [], [], some (.inl (cI 0 0)))])
theorem q832 : sum_g w0 (pm_Rt pm_P 2) S832 := meth_okB (d := 1) (cuts := [(2, [([(0, cI 1 8), (1, cI 0 511), (2, cI 1 2), (3, cI 1 9)], [], [], [], [.inl 0, .inr (.inl 3, true), .inl 0])])]) (spl := []) (K := [0, 1, 2]) (N := 10) (sums := [S125]) aiX1_firstFree (abX1_firstFree w0) (by decide) (List.forall_mem_cons.mpr ⟨sum_up q125 0, fun _ h => absurd h List.not_mem_nil⟩) (by decide +kernel)
noncomputable def S833 : Sum1 := (24, [cI 1 8, cI 0 511, cI 0 8], [], [], [], [([cI 2 8, cI 0 511, cI 0 8], [], [], some (.inl (cI 1 8))), ([cI 1 8, cI 0 511, cI 0 8], [], [], some (.inl (cI 0 0)))])
theorem q833 : sum_g w0 (pm_Rt pm_P 2) S833 := meth_okB (d := 1) (cuts := [(2, [([(0, cI 1 8), (1, cI 0 511), (2, cI 0 8), (3, cI 1 8)], [], [], [], [.inl 0, .inr (.inl 3, true), .inl 0])])]) (spl := []) (K := [0, 1, 2]) (N := 30) (sums := [S127, S122, S125]) aiX1_nearestFree (abX1_nearestFree w0) (by decide) (List.forall_mem_cons.mpr ⟨sum_up q127 0, List.forall_mem_cons.mpr ⟨sum_up q122 0, List.forall_mem_cons.mpr ⟨sum_up q125 0, fun _ h => absurd h List.not_mem_nil⟩⟩⟩) (by decide +kernel)
noncomputable def S834 : Sum1 := (21, [cI 1 8, cI 0 511, cI 1 9], [], [], [], [([cI 1 8, cI 0 511, cI 1 9], [], [], some (.inl (cI 1 8))), ([cI 1 8, cI 0 511, cI 1 9], [], [], some (.inl (cI 0 0)))])
theorem q834 : sum_g w0 (pm_Rt pm_P 2) S834 := meth_okB (d := 1) (cuts := [(2, [([(0, cI 1 8), (1, cI 0 511), (2, cI 1 9), (3, cI 1 9)], [], [], [], [.inl 0, .inr (.inl 3, true), .inl 0])])]) (spl := []) (K := [0, 1, 2]) (N := 10) (sums := [S125]) aiX1_firstFree (abX1_firstFree w0) (by decide) (List.forall_mem_cons.mpr ⟨sum_up q125 0, fun _ h => absurd h List.not_mem_nil⟩) (by decide +kernel)
noncomputable def S835 : Sum1 := (21, [cI 1 8, cI 0 511, cI 1 1], [], [], [], [([cI 1 8, cI 0 511, cI 1 1], [], [], some (.inl (cI 1 8))), ([cI 1 8, cI 0 511, cI 1 1], [], [], some (.inl (cI 0 0)))])
theorem q835 : sum_g w0 (pm_Rt pm_P 2) S835 := meth_okB (d := 1) (cuts := [(2, [([(0, cI 1 8), (1, cI 0 511), (2, cI 1 1), (3, cI 1 9)], [], [], [], [.inl 0, .inr (.inl 3, true), .inl 0])])]) (spl := []) (K := [0, 1, 2]) (N := 10) (sums := [S125]) aiX1_firstFree (abX1_firstFree w0) (by decide) (List.forall_mem_cons.mpr ⟨sum_up q125 0, fun _ h => absurd h List.not_mem_nil⟩) (by decide +kernel)
noncomputable def S836 : Sum1 := (25, [cI 0 3, cI 1 8, cI 0 511, cI 0 8], [], [], [], [([cI 0 3, cI 1 8, cI 0 511, cI 0 8], [], [], some (.inl (cI 0 0))), ([cI 0 3, cI 1 8, cI 0 511, cI 0 8], [], [], some (.inl (cI 0 8)))])
theorem q836 : sum_g w0 (pm_Rt pm_P 3) S836 := meth_okB (d := 2) (cuts := []) (spl := []) (K := [0, 1, 2, 3]) (N := 34) (sums := [S122, S835, S121, S832, S831, S833, S834]) aiX1_spotFor (abX1_spotFor w0) (by decide) (List.forall_mem_cons.mpr ⟨sum_up q122 1, List.forall_mem_cons.mpr ⟨sum_up q835 0, List.forall_mem_cons.mpr ⟨sum_up q121 1, List.forall_mem_cons.mpr ⟨sum_up q832 0, List.forall_mem_cons.mpr ⟨sum_up q831 0, List.forall_mem_cons.mpr ⟨sum_up q833 0, List.forall_mem_cons.mpr ⟨sum_up q834 0, fun _ h => absurd h List.not_mem_nil⟩⟩⟩⟩⟩⟩⟩) (by decide +kernel)
noncomputable def S837 : Sum1 := (42, [cR 72, cR 17, cI 0 8, cI 1 8, cI 0 3], [], [], [(73, 0, 255), (74, 0, 255)], [([cR 72, cR 17, cI 0 8, cI 1 8, cI 0 3], [((73, 0), 0, 0), ((74, 0), 0, 0)], [], none)])
theorem q837 : sum_g w0 (pm_Rt pm_P 4) S837 := meth_okB (d := 3) (cuts := [(17, [([(0, cR 72), (1, cR 17), (2, cI 0 8), (3, cI 1 8), (4, cI 0 3), (5, cI 0 8)], [], [((73, 0), 0, 0), ((74, 0), 0, 0)], [], [.inl 0, .inr (.inl 5, true), .inl 1])]), (26, [([(0, cR 72), (1, cR 17), (2, cI 1 8), (3, cI 1 8), (4, cI 0 3), (5, cI 0 7), (6, cI 0 128)], [], [((73, 0), 0, 0), ((74, 0), 0, 0)], [], [.inl 0, .inr (.inl 5, true), .inl 0, .inr (.inl 6, true), .inl 0])])]) (spl := []) (K := [0, 1, 2, 3, 4]) (N := 55) (sums := [S132, S133, S836]) aiX3_fill (abX3_fill w0) (by decide) (List.forall_mem_cons.mpr ⟨sum_up q132 2, List.forall_mem_cons.mpr ⟨sum_up q133 2, List.forall_mem_cons.mpr ⟨sum_up q836 0, fun _ h => absurd h List.not_mem_nil⟩⟩⟩) (by decide +kernel)
noncomputable def S838 : Sum1 := (161, [cI 0 10, cI 0 8], [], [], [], [([cI 0 10, cI 0 8], [], [], some (.inl (cL (-9223372036854775808) 9223372036854775807)))])
theorem q838 : sum_g w0 (pm_Rt pm_P 1) S838 := meth_okB (d := 0) (cuts := [(5, [([(0, cI 0 10), (1, cI 0 8), (2, cL (-9223372036854775808) 9223372036854775807), (4, cI 0 8)], [], [], [], [.inl 0, .inr (.inl 4, true), .inl 0])])]) (spl := []) (K := [0, 1]) (N := 11) (sums := []) aiX8_power (abX8_power w0) (by decide) (fun _ h => absurd h List.not_mem_nil) (by decide +kernel)
noncomputable def S839 : Sum1 := (161, [cI 0 10, cI (-1) 7], [], [], [], [([cI 0 10, cI (-1) 7], [], [], some (.inl (cL (-9223372036854775808) 9223372036854775807)))])
theorem q839 : sum_g w0 (pm_Rt pm_P 1) S839 := meth_okB (d := 0) (cuts := [(5, [([(0, cI 0 10), (1, cI (-1) 7), (2, cL (-9223372036854775808) 9223372036854775807), (4, cI 0 7)], [], [], [], [.inl 0, .inr (.inl 4, true), .inl 0])])]) (spl := []) (K := [0, 1]) (N := 11) (sums := []) aiX8_power (abX8_power w0) (by decide) (fun _ h => absurd h List.not_mem_nil) (by decide +kernel)
noncomputable def S840 : Sum1 := (161, [cI 0 10, cI 2 8], [], [], [], [([cI 0 10, cI 2 8], [], [], some (.inl (cL (-9223372036854775808) 9223372036854775807)))])
theorem q840 : sum_g w0 (pm_Rt pm_P 1) S840 := meth_okB (d := 0) (cuts := [(5, [([(0, cI 0 10), (1, cI 2 8), (2, cL (-9223372036854775808) 9223372036854775807), (4, cI 0 8)], [], [], [], [.inl 0, .inr (.inl 4, true), .inl 0])])]) (spl := []) (K := [0, 1]) (N := 11) (sums := []) aiX8_power (abX8_power w0) (by decide) (fun _ h => absurd h List.not_mem_nil) (by decide +kernel)
noncomputable def S841 : Sum1 := (161, [cI 0 10, cI (-8) 6], [], [], [], [([cI 0 10, cI (-8) 6], [], [], some (.inl (cL (-9223372036854775808) 9223372036854775807)))])
theorem q841 : sum_g w0 (pm_Rt pm_P 1) S841 := meth_okB (d := 0) (cuts := [(5, [([(0, cI 0 10), (1, cI (-8) 6), (2, cL (-9223372036854775808) 9223372036854775807), (4, cI 0 6)], [], [], [], [.inl 0, .inr (.inl 4, true), .inl 0])])]) (spl := []) (K := [0, 1]) (N := 11) (sums := []) aiX8_power (abX8_power w0) (by decide) (fun _ h => absurd h List.not_mem_nil) (by decide +kernel)
noncomputable def S842 : Sum1 := (176, [cR 0, cI 0 255, cI 0 8], [], [], [], [([cR 0, cI 0 255, cI 0 8], [], [], some (.inl (cL (-9223372036854775808) 9223372036854775807)))])
theorem q842 : sum_g w0 (pm_Rt pm_P 2) S842 := meth_okB (d := 1) (cuts := []) (spl := []) (K := [0, 1, 2]) (N := 20) (sums := [S770, S772, S840, S838, S839, S841, S607]) aiX8_setWeight (abX8_setWeight w0) (by decide) (List.forall_mem_cons.mpr ⟨sum_up q770 0, List.forall_mem_cons.mpr ⟨sum_up q772 0, List.forall_mem_cons.mpr ⟨sum_up q840 0, List.forall_mem_cons.mpr ⟨sum_up q838 0, List.forall_mem_cons.mpr ⟨sum_up q839 0, List.forall_mem_cons.mpr ⟨sum_up q841 0, List.forall_mem_cons.mpr ⟨sum_up q607 0, fun _ h => absurd h List.not_mem_nil⟩⟩⟩⟩⟩⟩⟩) (by decide +kernel)
noncomputable def S843 : Sum1 := (161, [cI 10 10, cI 0 8], [], [], [], [([cI 10 10, cI 0 8], [], [], some (.inl (cL (-9223372036854775808) 9223372036854775807)))])
theorem q843 : sum_g w0 (pm_Rt pm_P 1) S843 := meth_okB (d := 0) (cuts := [(5, [([(0, cI 10 10), (1, cI 0 8), (2, cL (-9223372036854775808) 9223372036854775807), (4, cI 0 8)], [], [], [], [.inl 0, .inr (.inl 4, true), .inl 0])])]) (spl := []) (K := [0, 1]) (N := 11) (sums := []) aiX8_power (abX8_power w0) (by decide) (fun _ h => absurd h List.not_mem_nil) (by decide +kernel)
noncomputable def S844 : Sum1 := (147, [cR 0, cI (-2147483648) 2147483647], [], [], [(73, 0, 255), (74, 0, 255)], [([cR 0, cI (-2147483648) 2147483647], [], [], some (.inl (cL (-9223372036854775808) 9223372036854775807)))])
theorem q844 : sum_g w0 (pm_Rt pm_P 5) S844 := meth_okB (d := 4) (cuts := [(58, [([(0, cR 0), (1, cI 0 1), (2, cL (-9223372036854775808) 9223372036854775807), (4, cI 0 256)], [], [((15, 0), 1, 8), ((15, 1), 0, 3), ((15, 4), 0, 8), ((73, 0), 0, 0), ((74, 0), 0, 0)], [], [.inl 0, .inr (.inl 4, true), .inl 0])])]) (spl := []) (K := [0, 1]) (N := 26) (sums := [S158, S120, S843, S837, S842, S110, S778]) aiX8_mean (abX8_mean w0) (by decide) (List.forall_mem_cons.mpr ⟨sum_up q158 3, List.forall_mem_cons.mpr ⟨sum_up q120 3, List.forall_mem_cons.mpr ⟨sum_up q843 3, List.forall_mem_cons.mpr ⟨sum_up q837 0, List.forall_mem_cons.mpr ⟨sum_up q842 2, List.forall_mem_cons.mpr ⟨sum_up q110 3, List.forall_mem_cons.mpr ⟨sum_up q778 2, fun _ h => absurd h List.not_mem_nil⟩⟩⟩⟩⟩⟩⟩) (by decide +kernel)
noncomputable def S845 : Sum1 := (371, [cR 77, cI (-1) (-1)], [], [125], [(77, 22, 23), (77, 27, 27), (89, 0, 7), (90, 0, 9), (91, 0, 7)], [([cR 77, cI (-1) (-1)], [((77, 23), 0, 255)], [], some (.inl (cL (-9223372036854775808) 9223372036854775807)))])
theorem q845 : sum_g w0 (pm_Rt pm_P 10) S845 := wy_sum (fun x a b => .inl (Int32.toInt_inj.mp (show x.toInt = (-1 : Int32).toInt from (Int.le_antisymm b a).trans rfl)))
noncomputable def ah18_X5_doAct : List (Nat × AR w0) := [(0, .inl (R_al 0 1)), (1, .inl (R_getf 5 12 4)), (4, .inl (R_il 1 5)), (5, .inl (R_iald 6)), (6, .inl (R_is 2 7)), (7, .inl (R_al 0 8)), (8, .inl (R_getf 5 13 11)), (11, .inl (R_il 1 12)), (12, .inl (R_iald 13)), (13, .inl (R_is 3 14)), (14, .inl (R_al 0 15)), (15, .inl (R_getf 5 14 18)), (18, .inl (R_il 1 19)), (19, .inl (R_zald 20)), (20, .inl (R_h (R_if1_eq 54 23) (h_use 1) (h_use_ok 1))), (23, .inl (R_al 0 24)), (24, .inl (R_getf 5 8 27)), (27, .inl (R_il 2 28)), (28, .inl (R_iald 29)), (29, .inl (R_is 4 31)), (31, .inl (R_al 0 32)), (32, .inl (R_getf 5 8 35)), (35, .inl (R_il 2 36)), (36, .inl (R_al 0 37)), (37, .inl (R_getf 5 8 40)), (40, .inl (R_il 3 41)), (41, .inl (R_iald 42)), (42, .inl (R_iast 43)), (43, .inl (R_al 0 44)), (44, .inl (R_getf 5 8 47)), (47, .inl (R_il 3 48)), (48, .inl (R_il 4 50)), (50, .inl (R_iast 51)), (51, .inl (R_goto 61)), (54, .inl (R_al 0 55)), (55, .inl (R_getf 5 8 58)), (58, .inl (R_il 2 59)), (59, .inl (R_il 3 60)), (60, .inl (R_iast 61)), (61, .inr (.inr 0))]
set_option maxRecDepth 20000 in
theorem bah18_X5_doAct : iX5_doAct.2.2.2.2.2.2.2 = ar_tab ah18_X5_doAct := rfl
noncomputable def S846 : Sum1 := (51, [cR 15, cI 0 19], [], [41], [(17, 0, 7)], [([cR 15, cI 0 19], [], [], none)])
theorem q846 : sum_g w0 (pm_Rt pm_P 1) S846 := dq
noncomputable def ah19_X5_addAct : List (Nat × AR w0) := [(0, .inl (R_al 0 1)), (1, .inl (R_getf 5 6 4)), (4, .inl (R_const (.int 20) 6)), (6, .inl (R_if2_ge 57 9)), (9, .inl (R_h (R_al 0 10) (h_weak 1) (h_weak_ok 1))), (10, .inl (R_getf 5 12 13)), (13, .inl (R_al 0 14)), (14, .inl (R_getf 5 6 17)), (17, .inl (R_il 1 18)), (18, .inl (R_iast 19)), (19, .inl (R_al 0 20)), (20, .inl (R_getf 5 13 23)), (23, .inl (R_al 0 24)), (24, .inl (R_getf 5 6 27)), (27, .inl (R_il 2 28)), (28, .inl (R_iast 29)), (29, .inl (R_al 0 30)), (30, .inl (R_getf 5 14 33)), (33, .inl (R_al 0 34)), (34, .inl (R_getf 5 6 37)), (37, .inl (R_il 3 38)), (38, .inl (R_h (R_zast 39) (h_intro 1) (h_intro_ok 1))), (39, .inl (R_al 0 40)), (40, .inl (R_al 0 41)), (41, .inl (R_getf 5 6 44)), (44, .inr (.inl (51, 2, some 5, 0, 0))), (47, .inl (R_al 0 48)), (48, .inl (R_dup 49)), (49, .inl (R_getf 5 6 52)), (52, .inl (R_const (.int 1) 53)), (53, .inl (R_add 54)), (54, .inl (R_putf 5 6 (.int) 57)), (57, .inr (.inr 0))]
set_option maxRecDepth 20000 in
theorem bah19_X5_addAct : iX5_addAct.2.2.2.2.2.2.2 = ar_tab ah19_X5_addAct := rfl
noncomputable def S866 : Sum1 := (47, [cR 15, cI 0 7, cI 1 8, cI 0 0], [], [41], [(15, 6, 6), (17, 0, 7), (21, 0, 19), (22, 0, 19), (23, 0, 19)], [([cR 15, cI 0 7, cI 1 8, cI 0 0], [((15, 6), 1, 20)], [41], none)])
theorem q866 : sum_g w0 (pm_Rt pm_P 2) S866 := meth_okB (d := 1) (cuts := []) (spl := [1]) (K := [0, 1, 2, 3]) (N := 34) (sums := [S846]) aiX5_addAct bah19_X5_addAct (by decide) (List.forall_mem_cons.mpr ⟨sum_up q846 0, fun _ h => absurd h List.not_mem_nil⟩) (by decide +kernel)
noncomputable def S867 : Sum1 := (78, [cR 0, cI 0 7, cI 1 8, cI 0 0], [], [41], [(15, 6, 6), (17, 0, 7), (21, 0, 19), (22, 0, 19), (23, 0, 19), (62, 1, 3), (63, 0, 7)], [([cR 0, cI 0 7, cI 1 8, cI 0 0], [((15, 6), 1, 20)], [41], some (.inl (cI (-5) 8))), ([cR 0, cI 0 7, cI 1 8, cI 0 0], [((15, 6), 1, 20)], [41], some (.inl (cI 0 0))), ([cR 0, cI 0 7, cI 1 8, cI 0 0], [((15, 6), 1, 20)], [41], some (.inl (cI 1 1)))])
theorem q867 : sum_g w0 (pm_Rt pm_P 6) S867 := meth_okB (d := 5) (cuts := []) (spl := []) (K := [0, 1, 2, 3]) (N := 19) (sums := [S137, S866, S607]) aiX8_actAndCountLost (abX8_actAndCountLost w0) (by decide) (List.forall_mem_cons.mpr ⟨sum_up q137 0, List.forall_mem_cons.mpr ⟨sum_up q866 3, List.forall_mem_cons.mpr ⟨sum_up q607 4, fun _ h => absurd h List.not_mem_nil⟩⟩⟩) (by decide +kernel)
noncomputable def S868 : Sum1 := (198, [cR 0, cI (-2147483648) 2147483647, cI (-2147483648) 2147483647], [], [41], [(15, 6, 6), (17, 0, 7), (21, 0, 19), (22, 0, 19), (23, 0, 19), (62, 1, 3), (63, 0, 7)], [([cR 0, cI (-2147483648) 2147483647, cI (-2147483648) 2147483647], [], [41], some (.inl (cI (-5) 8))), ([cR 0, cI 0 7, cI 1 8], [((15, 0), 1, 8), ((15, 4), 1, 8), ((15, 6), 1, 20)], [41], some (.inl (cI 1 1))), ([cR 0, cI 0 7, cI 1 8], [((15, 0), 1, 8), ((15, 4), 1, 8), ((15, 6), 1, 20)], [41], some (.inl (cI 0 0)))])
theorem q868 : sum_g w0 (pm_Rt pm_P 7) S868 := meth_okB (d := 6) (cuts := []) (spl := []) (K := [0, 1, 2]) (N := 15) (sums := [S867, S109, S164]) aiX8_wants (abX8_wants w0) (by decide) (List.forall_mem_cons.mpr ⟨sum_up q867 0, List.forall_mem_cons.mpr ⟨sum_up q109 5, List.forall_mem_cons.mpr ⟨sum_up q164 5, fun _ h => absurd h List.not_mem_nil⟩⟩⟩) (by decide +kernel)
end
section
/-! what is known of the methods, checked (written by emit.py) -/
noncomputable def S871 : Sum1 := (47, [cR 15, cI 0 7, cI 0 7, cI 1 1], [], [41], [(15, 6, 6), (17, 0, 7), (21, 0, 19), (22, 0, 19), (23, 0, 19)], [([cR 15, cI 0 7, cI 0 7, cI 1 1], [((15, 6), 1, 20)], [41], none)])
theorem q871 : sum_g w0 (pm_Rt pm_P 2) S871 := meth_okB (d := 1) (cuts := []) (spl := [1]) (K := [0, 1, 2, 3]) (N := 34) (sums := [S846]) aiX5_addAct bah19_X5_addAct (by decide) (List.forall_mem_cons.mpr ⟨sum_up q846 0, fun _ h => absurd h List.not_mem_nil⟩) (by decide +kernel)
noncomputable def S872 : Sum1 := (78, [cR 0, cI 0 7, cI 0 7, cI 1 1], [], [41], [(15, 6, 6), (17, 0, 7), (21, 0, 19), (22, 0, 19), (23, 0, 19), (62, 1, 3), (63, 0, 7)], [([cR 0, cI 0 7, cI 0 7, cI 1 1], [((15, 6), 1, 20)], [41], some (.inl (cI (-5) 8))), ([cR 0, cI 0 7, cI 0 7, cI 1 1], [((15, 6), 1, 20)], [41], some (.inl (cI 0 0))), ([cR 0, cI 0 7, cI 0 7, cI 1 1], [((15, 6), 1, 20)], [41], some (.inl (cI 1 1)))])
theorem q872 : sum_g w0 (pm_Rt pm_P 6) S872 := meth_okB (d := 5) (cuts := []) (spl := []) (K := [0, 1, 2, 3]) (N := 19) (sums := [S137, S871, S607]) aiX8_actAndCountLost (abX8_actAndCountLost w0) (by decide) (List.forall_mem_cons.mpr ⟨sum_up q137 0, List.forall_mem_cons.mpr ⟨sum_up q871 3, List.forall_mem_cons.mpr ⟨sum_up q607 4, fun _ h => absurd h List.not_mem_nil⟩⟩⟩) (by decide +kernel)
noncomputable def S873 : Sum1 := (191, [cR 0, cI (-2147483648) 2147483647, cI (-2147483648) 2147483647], [], [41], [(15, 6, 6), (17, 0, 7), (21, 0, 19), (22, 0, 19), (23, 0, 19), (62, 1, 3), (63, 0, 7)], [([cR 0, cI 0 7, cI 0 7], [((15, 4), 1, 8), ((15, 6), 1, 20)], [41], some (.inl (cI 1 1))), ([cR 0, cI 0 7, cI 0 7], [((15, 4), 1, 8), ((15, 6), 1, 20)], [41], some (.inl (cI 0 0))), ([cR 0, cI (-2147483648) 2147483647, cI (-2147483648) 2147483647], [], [41], some (.inl (cI (-5) 8)))])
theorem q873 : sum_g w0 (pm_Rt pm_P 7) S873 := meth_okB (d := 6) (cuts := []) (spl := []) (K := [0, 1, 2]) (N := 12) (sums := [S872, S587]) aiX8_trades (abX8_trades w0) (by decide) (List.forall_mem_cons.mpr ⟨sum_up q872 0, List.forall_mem_cons.mpr ⟨sum_up q587 4, fun _ h => absurd h List.not_mem_nil⟩⟩) (by decide +kernel)
noncomputable def S876 : Sum1 := (51, [cR 15, cI 0 18], [], [41], [(17, 0, 7)], [([cR 15, cI 0 18], [], [], none)])
theorem q876 : sum_g w0 (pm_Rt pm_P 1) S876 := meth_okB (d := 0) (cuts := []) (spl := [4]) (K := [0, 1]) (N := 36) (sums := []) aiX5_doAct bah18_X5_doAct (by decide) (fun _ h => absurd h List.not_mem_nil) (by decide +kernel)
noncomputable def S877 : Sum1 := (53, [cR 15, cI 0 19], [], [41], [(15, 6, 6), (17, 0, 7)], [([cR 15, cI 0 19], [((15, 6), 0, 19)], [], none)])
theorem q877 : sum_g w0 (pm_Rt pm_P 2) S877 := meth_okB (d := 1) (cuts := [(7, [([(0, cR 15), (1, cI 0 19), (2, cI 0 8)], [], [((15, 6), 0, 19)], [41], [.inl 1, .inr (.inl 2, true), .inl 0])]), (35, [([(0, cR 15), (1, cI 0 19), (2, cI 0 19)], [], [((15, 4), 0, 8), ((15, 6), 0, 19)], [41], [.inl 0, .inr (.inl 2, true), .inl 0])])]) (spl := []) (K := [0, 1]) (N := 15) (sums := [S876]) aiX5_keepActs (abX5_keepActs w0) (by decide) (List.forall_mem_cons.mpr ⟨sum_up q876 0, fun _ h => absurd h List.not_mem_nil⟩) (by decide +kernel)
noncomputable def S878 : Sum1 := (195, [cR 0], [], [41], [(15, 6, 6), (17, 0, 7)], [([cR 0], [], [], some (.inl (cI (-5) 19)))])
theorem q878 : sum_g w0 (pm_Rt pm_P 3) S878 := meth_okB (d := 2) (cuts := []) (spl := []) (K := [0]) (N := 20) (sums := [S158, S877]) aiX8_undo (abX8_undo w0) (by decide) (List.forall_mem_cons.mpr ⟨sum_up q158 1, List.forall_mem_cons.mpr ⟨sum_up q877 0, fun _ h => absurd h List.not_mem_nil⟩⟩) (by decide +kernel)
noncomputable def S880 : Sum1 := (53, [cR 15, cI 0 0], [], [], [(15, 6, 6), (17, 0, 7)], [([cR 15, cI 0 0], [((15, 6), 0, 0)], [], none)])
theorem q880 : sum_g w0 (pm_Rt pm_P 1) S880 := meth_okB (d := 0) (cuts := [(7, [([(0, cR 15), (1, cI 0 0), (2, cI 0 8)], [], [((15, 6), 0, 0)], [], [.inl 1, .inr (.inl 2, true), .inl 0])]), (35, [([(0, cR 15), (1, cI 0 0), (2, cI 0 0)], [], [((15, 4), 0, 8), ((15, 6), 0, 0)], [], [.inl 0])])]) (spl := []) (K := [0, 1]) (N := 15) (sums := []) aiX5_keepActs (abX5_keepActs w0) (by decide) (fun _ h => absurd h List.not_mem_nil) (by decide +kernel)
noncomputable def S881 : Sum1 := (79, [cR 0], [], [], [(15, 6, 6), (17, 0, 7)], [([cR 0], [], [], some (.inl (cI (-2) 20)))])
theorem q881 : sum_g w0 (pm_Rt pm_P 2) S881 := meth_okB (d := 1) (cuts := []) (spl := []) (K := [0]) (N := 14) (sums := [S158, S880]) aiX8_anew (abX8_anew w0) (by decide) (List.forall_mem_cons.mpr ⟨sum_up q158 0, List.forall_mem_cons.mpr ⟨sum_up q880 0, fun _ h => absurd h List.not_mem_nil⟩⟩) (by decide +kernel)
noncomputable def S883 : Sum1 := (126, [cI (-2147483648) 2147483647], [], [], [], [([cI 0 2000000000], [], [], some (.inl (cI 1 1))), ([cI (-2147483648) 2147483647], [], [], some (.inl (cI 0 0)))])
theorem q883 : sum_g w0 (pm_Rt pm_P 1) S883 := meth_okB (d := 0) (cuts := []) (spl := []) (K := [0]) (N := 9) (sums := []) aiX8_isSeed (abX8_isSeed w0) (by decide) (fun _ h => absurd h List.not_mem_nil) (by decide +kernel)
noncomputable def S884 : Sum1 := (99, [cR 0, cI 0 2000000000], [], [], [], [([cR 0, cI 0 2000000000], [], [], some (.inl (cI 0 255)))])
theorem q884 : sum_g w0 (pm_Rt pm_P 1) S884 := meth_okB (d := 0) (cuts := [(9, [([(0, cR 0), (1, cI 0 2000000000), (2, cL (-9223372036854775808) 9223372036854775807), (4, cI 0 255), (5, cI 0 8)], [], [], [], [.inl 0, .inr (.inl 5, true), .inl 0])])]) (spl := []) (K := [0, 1]) (N := 33) (sums := []) aiX8_drawSet (abX8_drawSet w0) (by decide) (fun _ h => absurd h List.not_mem_nil) (by decide +kernel)
noncomputable def S885 : Sum1 := (100, [cR 0, cI (-2147483648) 2147483647, cI (-2147483648) 2147483647], [], [], [(62, 1, 3), (63, 0, 7)], [([cR 0, cI (-2147483648) 2147483647, cI (-2147483648) 2147483647], [], [], some (.inl (cI (-2147483648) 2147483647)))])
theorem q885 : sum_g w0 (pm_Rt pm_P 6) S885 := meth_okB (d := 5) (cuts := []) (spl := []) (K := [0, 1, 2]) (N := 23) (sums := [S158, S625, S884, S883, S110]) aiX8_drawn (abX8_drawn w0) (by decide) (List.forall_mem_cons.mpr ⟨sum_up q158 4, List.forall_mem_cons.mpr ⟨sum_up q625 0, List.forall_mem_cons.mpr ⟨sum_up q884 4, List.forall_mem_cons.mpr ⟨sum_up q883 4, List.forall_mem_cons.mpr ⟨sum_up q110 4, fun _ h => absurd h List.not_mem_nil⟩⟩⟩⟩⟩) (by decide +kernel)
noncomputable def S886 : Sum1 := (261, [cL (-2147483648) 2147483647, cL 0 0, cL 2000000000 2000000000], [], [], [], [([cL (-2147483648) 2147483647, cL 0 0, cL 2000000000 2000000000], [], [], some (.inl (cI 0 0))), ([cL 0 2000000000, cL 0 0, cL 2000000000 2000000000], [], [], some (.inl (cI 1 1)))])
theorem q886 : sum_g w0 (pm_Rt pm_P 1) S886 := meth_okB (d := 0) (cuts := []) (spl := []) (K := [0, 2, 4]) (N := 12) (sums := []) aiX9_in (abX9_in w0) (by decide) (fun _ h => absurd h List.not_mem_nil) (by decide +kernel)
noncomputable def S887 : Sum1 := (277, [cI (-2147483648) 2147483647], [], [], [], [([cI 0 2000000000], [], [], some (.inl (cI 1 1))), ([cI (-2147483648) 2147483647], [], [], some (.inl (cI 0 0)))])
theorem q887 : sum_g w0 (pm_Rt pm_P 2) S887 := meth_okB (d := 1) (cuts := []) (spl := []) (K := [0]) (N := 7) (sums := [S886]) aiX9_isSeed (abX9_isSeed w0) (by decide) (List.forall_mem_cons.mpr ⟨sum_up q886 0, fun _ h => absurd h List.not_mem_nil⟩) (by decide +kernel)
noncomputable def S888 : Sum1 := (240, [cR 77, cL 0 2000000000], [], [125], [(77, 22, 23), (77, 27, 27), (89, 0, 7), (90, 0, 9), (91, 0, 7)], [([cR 77, cL 0 2000000000], [((77, 23), 0, 255)], [], none)])
theorem q888 : sum_g w0 (pm_Rt pm_P 5) S888 := meth_okB (d := 4) (cuts := [(14, [([(0, cR 77), (1, cL 0 2000000000), (3, cL (-9223372036854775808) 9223372036854775807), (5, cI 0 8)], [], [((77, 23), 0, 255)], [125], [.inl 0, .inr (.inl 5, true), .inl 0])])]) (spl := []) (K := [0, 1]) (N := 36) (sums := [S118, S112, S149]) aiX9_draws (abX9_draws w0) (by decide) (List.forall_mem_cons.mpr ⟨sum_up q118 2, List.forall_mem_cons.mpr ⟨sum_up q112 3, List.forall_mem_cons.mpr ⟨sum_up q149 0, fun _ h => absurd h List.not_mem_nil⟩⟩⟩) (by decide +kernel)
noncomputable def S889 : Sum1 := (239, [cR 77, cI (-2147483648) 2147483647, cI (-2147483648) 2147483647], [], [125], [(77, 0, 0), (77, 22, 23), (77, 27, 27), (89, 0, 7), (90, 0, 9), (91, 0, 7)], [([cR 77, cI (-2147483648) 2147483647, cI (-2147483648) 2147483647], [], [], some (.inl (cI (-2147483648) 2147483647)))])
theorem q889 : sum_g w0 (pm_Rt pm_P 6) S889 := meth_okB (d := 5) (cuts := []) (spl := []) (K := [0, 1, 2]) (N := 23) (sums := [S160, S172, S888, S887, S116]) aiX9_drawn (abX9_drawn w0) (by decide) (List.forall_mem_cons.mpr ⟨sum_up q160 4, List.forall_mem_cons.mpr ⟨sum_up q172 2, List.forall_mem_cons.mpr ⟨sum_up q888 0, List.forall_mem_cons.mpr ⟨sum_up q887 3, List.forall_mem_cons.mpr ⟨sum_up q116 3, fun _ h => absurd h List.not_mem_nil⟩⟩⟩⟩⟩) (by decide +kernel)
noncomputable def S890 : Sum1 := (99, [cR 0, cI 0 2000000019], [], [], [], [([cR 0, cI 0 2000000019], [], [], some (.inl (cI 0 255)))])
theorem q890 : sum_g w0 (pm_Rt pm_P 1) S890 := meth_okB (d := 0) (cuts := [(9, [([(0, cR 0), (1, cI 0 2000000019), (2, cL (-9223372036854775808) 9223372036854775807), (4, cI 0 255), (5, cI 0 8)], [], [], [], [.inl 0, .inr (.inl 5, true), .inl 0])])]) (spl := []) (K := [0, 1]) (N := 33) (sums := []) aiX8_drawSet (abX8_drawSet w0) (by decide) (fun _ h => absurd h List.not_mem_nil) (by decide +kernel)
noncomputable def S891 : Sum1 := (144, [cR 0, cI (-2147483648) 2147483647, cI (-2147483648) 2147483647, cI (-2147483648) 2147483647], [], [], [(62, 1, 3), (63, 0, 7)], [([cR 0, cI (-2147483648) 2147483647, cI (-2147483648) 2147483647, cI (-2147483648) 2147483647], [], [], some (.inl (cI (-2147483648) 2147483647)))])
theorem q891 : sum_g w0 (pm_Rt pm_P 6) S891 := meth_okB (d := 5) (cuts := [(35, [([(0, cR 0), (1, cI 0 2000000000), (2, cI 1 20), (3, cI 0 7), (4, cI (-2147483648) 2147483647), (5, cI 0 20)], [], [((15, 4), 1, 8)], [], [.inl 0, .inr (.inl 5, true), .inl 0])])]) (spl := []) (K := [0, 1, 2, 3]) (N := 20) (sums := [S625, S890, S109, S883]) aiX8_luck (abX8_luck w0) (by decide) (List.forall_mem_cons.mpr ⟨sum_up q625 0, List.forall_mem_cons.mpr ⟨sum_up q890 4, List.forall_mem_cons.mpr ⟨sum_up q109 4, List.forall_mem_cons.mpr ⟨sum_up q883 4, fun _ h => absurd h List.not_mem_nil⟩⟩⟩⟩) (by decide +kernel)
noncomputable def S892 : Sum1 := (261, [cL (-2147483648) 2147483647, cL 1 1, cL 20 20], [], [], [], [([cL (-2147483648) 2147483647, cL 1 1, cL 20 20], [], [], some (.inl (cI 0 0))), ([cL 1 20, cL 1 1, cL 20 20], [], [], some (.inl (cI 1 1)))])
theorem q892 : sum_g w0 (pm_Rt pm_P 1) S892 := meth_okB (d := 0) (cuts := []) (spl := []) (K := [0, 2, 4]) (N := 12) (sums := []) aiX9_in (abX9_in w0) (by decide) (fun _ h => absurd h List.not_mem_nil) (by decide +kernel)
noncomputable def S893 : Sum1 := (240, [cR 77, cL 0 2000000019], [], [125], [(77, 22, 23), (77, 27, 27), (89, 0, 7), (90, 0, 9), (91, 0, 7)], [([cR 77, cL 0 2000000019], [((77, 23), 0, 255)], [], none)])
theorem q893 : sum_g w0 (pm_Rt pm_P 5) S893 := meth_okB (d := 4) (cuts := [(14, [([(0, cR 77), (1, cL 0 2000000019), (3, cL (-9223372036854775808) 9223372036854775807), (5, cI 0 8)], [], [((77, 23), 0, 255)], [125], [.inl 0, .inr (.inl 5, true), .inl 0])])]) (spl := []) (K := [0, 1]) (N := 36) (sums := [S118, S112, S149]) aiX9_draws (abX9_draws w0) (by decide) (List.forall_mem_cons.mpr ⟨sum_up q118 2, List.forall_mem_cons.mpr ⟨sum_up q112 3, List.forall_mem_cons.mpr ⟨sum_up q149 0, fun _ h => absurd h List.not_mem_nil⟩⟩⟩) (by decide +kernel)
noncomputable def S894 : Sum1 := (306, [cR 77, cI (-2147483648) 2147483647, cI (-2147483648) 2147483647, cI (-2147483648) 2147483647], [], [125], [(77, 0, 0), (77, 22, 23), (77, 27, 27), (89, 0, 7), (90, 0, 9), (91, 0, 7)], [([cR 77, cI (-2147483648) 2147483647, cI (-2147483648) 2147483647, cI (-2147483648) 2147483647], [], [], some (.inl (cI (-2147483648) 2147483647)))])
theorem q894 : sum_g w0 (pm_Rt pm_P 6) S894 := meth_okB (d := 5) (cuts := [(42, [([(0, cR 77), (1, cI 0 2000000000), (2, cI 1 20), (3, cI 0 7), (4, cI (-2147483648) 2147483647), (5, cI 0 20)], [], [((77, 0), 0, 0)], [125], [.inl 0, .inr (.inl 5, true), .inl 0])])]) (spl := []) (K := [0, 1, 2, 3]) (N := 24) (sums := [S893, S887, S892, S114]) aiX9_luck (abX9_luck w0) (by decide) (List.forall_mem_cons.mpr ⟨sum_up q893 0, List.forall_mem_cons.mpr ⟨sum_up q887 3, List.forall_mem_cons.mpr ⟨sum_up q892 4, List.forall_mem_cons.mpr ⟨sum_up q114 3, fun _ h => absurd h List.not_mem_nil⟩⟩⟩⟩) (by decide +kernel)
noncomputable def S895 : Sum1 := (164, [cR 0, cI (-2147483648) 2147483647, cI (-2147483648) 2147483647], [], [], [(18, 0, 7)], [([cR 0, cI (-2147483648) 2147483647, cI (-2147483648) 2147483647], [], [], some (.inl (cI (-5) 99)))])
theorem q895 : sum_g w0 (pm_Rt pm_P 2) S895 := meth_okB (d := 1) (cuts := []) (spl := []) (K := [0, 1, 2]) (N := 28) (sums := [S109]) aiX8_rate (abX8_rate w0) (by decide) (List.forall_mem_cons.mpr ⟨sum_up q109 0, fun _ h => absurd h List.not_mem_nil⟩) (by decide +kernel)
noncomputable def S898 : Sum1 := (181, [cR 0], [], [], [], [([cR 0], [], [], some (.inl (cI (-2147483648) 2147483647)))])
theorem q898 : sum_g w0 (pm_Rt pm_P 1) S898 := meth_okB (d := 0) (cuts := [(4, [([(0, cR 0), (1, cI (-2147483648) 2147483647), (2, cI 0 4)], [], [], [], [.inl 0, .inr (.inl 2, true), .inl 0])])]) (spl := []) (K := [0]) (N := 13) (sums := []) aiX8_slotsWithRows (abX8_slotsWithRows w0) (by decide) (fun _ h => absurd h List.not_mem_nil) (by decide +kernel)
noncomputable def S899 : Sum1 := (93, [cR 0, cI (-2147483648) 2147483647], [], [], [], [([cR 0, cI (-2147483648) 2147483647], [], [], some (.inl (cI (-2147483648) 2147483647)))])
theorem q899 : sum_g w0 (pm_Rt pm_P 2) S899 := meth_okB (d := 1) (cuts := []) (spl := []) (K := [0, 1]) (N := 7) (sums := [S898]) aiX8_count (abX8_count w0) (by decide) (List.forall_mem_cons.mpr ⟨sum_up q898 0, fun _ h => absurd h List.not_mem_nil⟩) (by decide +kernel)
noncomputable def S900 : Sum1 := (261, [cL (-2147483648) 2147483647, cL 0 0, cL 5 5], [], [], [], [([cL (-2147483648) 2147483647, cL 0 0, cL 5 5], [], [], some (.inl (cI 0 0))), ([cL 0 5, cL 0 0, cL 5 5], [], [], some (.inl (cI 1 1)))])
theorem q900 : sum_g w0 (pm_Rt pm_P 1) S900 := meth_okB (d := 0) (cuts := []) (spl := []) (K := [0, 2, 4]) (N := 12) (sums := []) aiX9_in (abX9_in w0) (by decide) (fun _ h => absurd h List.not_mem_nil) (by decide +kernel)
noncomputable def S901 : Sum1 := (233, [cR 77, cI (-2147483648) 2147483647], [], [], [(77, 0, 0)], [([cR 77, cI (-2147483648) 2147483647], [], [], some (.inl (cI (-2147483648) 2147483647)))])
theorem q901 : sum_g w0 (pm_Rt pm_P 2) S901 := meth_okB (d := 1) (cuts := [(66, [([(0, cR 77), (1, cI 8 8), (2, cI (-2147483648) 2147483647), (3, cI 0 4)], [], [((77, 0), 0, 0)], [], [.inl 0, .inr (.inl 3, true), .inl 0])])]) (spl := []) (K := [0, 1]) (N := 19) (sums := [S900]) aiX9_count (abX9_count w0) (by decide) (List.forall_mem_cons.mpr ⟨sum_up q900 0, fun _ h => absurd h List.not_mem_nil⟩) (by decide +kernel)
noncomputable def S902 : Sum1 := (54, [cR 43, cR 15], [], [41, 104], [(43, 0, 6), (44, 0, 7), (45, 0, 7), (46, 0, 7), (47, 0, 7), (48, 0, 7), (49, 0, 19), (50, 0, 19), (51, 0, 19)], [([cR 43, cR 15], [], [104], none)])
theorem q902 : sum_g w0 (pm_Rt pm_P 1) S902 := tkq_43_15
noncomputable def S903 : Sum1 := (54, [cR 34, cR 15], [], [41, 83], [(34, 0, 6), (35, 0, 7), (36, 0, 7), (37, 0, 7), (38, 0, 7), (39, 0, 7), (40, 0, 19), (41, 0, 19), (42, 0, 19)], [([cR 34, cR 15], [], [83], none)])
theorem q903 : sum_g w0 (pm_Rt pm_P 1) S903 := tkq_34_15
noncomputable def S904 : Sum1 := (54, [cR 25, cR 15], [], [41, 62], [(25, 0, 6), (26, 0, 7), (27, 0, 7), (28, 0, 7), (29, 0, 7), (30, 0, 7), (31, 0, 19), (32, 0, 19), (33, 0, 19)], [([cR 25, cR 15], [], [62], none)])
theorem q904 : sum_g w0 (pm_Rt pm_P 1) S904 := tkq_25_15
end
section
/-! what is known of the methods, checked (written by emit.py) -/
noncomputable def S905 : Sum1 := (121, [cR 0, cI (-2147483648) 2147483647], [], [41, 62, 83, 104], [(25, 0, 6), (26, 0, 7), (27, 0, 7), (28, 0, 7), (29, 0, 7), (30, 0, 7), (31, 0, 19), (32, 0, 19), (33, 0, 19), (34, 0, 6), (35, 0, 7), (36, 0, 7), (37, 0, 7), (38, 0, 7), (39, 0, 7), (40, 0, 19), (41, 0, 19), (42, 0, 19), (43, 0, 6), (44, 0, 7), (45, 0, 7), (46, 0, 7), (47, 0, 7), (48, 0, 7), (49, 0, 19), (50, 0, 19), (51, 0, 19), (52, 0, 2)], [([cR 0, cI (-2147483648) 2147483647], [], [62, 83, 104], some (.inl (cI (-2) (-2)))), ([cR 0, cI 0 2], [], [62, 83, 104], some (.inl (cI 0 0)))])
theorem q905 : sum_g w0 (pm_Rt pm_P 2) S905 := meth_okB (d := 1) (cuts := []) (spl := []) (K := [0, 1]) (N := 20) (sums := [S902, S903, S904]) aiX8_image (abX8_image w0) (by decide) (List.forall_mem_cons.mpr ⟨sum_up q902 0, List.forall_mem_cons.mpr ⟨sum_up q903 0, List.forall_mem_cons.mpr ⟨sum_up q904 0, fun _ h => absurd h List.not_mem_nil⟩⟩⟩) (by decide +kernel)
noncomputable def S924 : Sum1 := (54, [cR 15, cR 43], [], [41, 104], [(15, 0, 6), (16, 0, 7), (17, 0, 7), (18, 0, 7), (19, 0, 7), (20, 0, 7), (21, 0, 19), (22, 0, 19), (23, 0, 19)], [([cR 15, cR 43], [], [41], none)])
theorem q924 : sum_g w0 (pm_Rt pm_P 1) S924 := tkq_15_43
end
section
/-! what is known of the methods, checked (written by emit.py) -/
noncomputable def S925 : Sum1 := (54, [cR 15, cR 34], [], [41, 83], [(15, 0, 6), (16, 0, 7), (17, 0, 7), (18, 0, 7), (19, 0, 7), (20, 0, 7), (21, 0, 19), (22, 0, 19), (23, 0, 19)], [([cR 15, cR 34], [], [41], none)])
theorem q925 : sum_g w0 (pm_Rt pm_P 1) S925 := tkq_15_34
noncomputable def S926 : Sum1 := (54, [cR 15, cR 25], [], [41, 62], [(15, 0, 6), (16, 0, 7), (17, 0, 7), (18, 0, 7), (19, 0, 7), (20, 0, 7), (21, 0, 19), (22, 0, 19), (23, 0, 19)], [([cR 15, cR 25], [], [41], none)])
theorem q926 : sum_g w0 (pm_Rt pm_P 1) S926 := tkq_15_25
noncomputable def S927 : Sum1 := (82, [cR 0, cI (-2147483648) 2147483647], [], [41, 62, 83, 104], [(15, 0, 6), (16, 0, 7), (17, 0, 7), (18, 0, 7), (19, 0, 7), (20, 0, 7), (21, 0, 19), (22, 0, 19), (23, 0, 19)], [([cR 0, cI (-2147483648) 2147483647], [], [41], some (.inl (cI (-6) (-2)))), ([cR 0, cI 0 2], [], [41], some (.inl (cI 0 0)))])
theorem q927 : sum_g w0 (pm_Rt pm_P 2) S927 := meth_okB (d := 1) (cuts := []) (spl := []) (K := [0, 1]) (N := 20) (sums := [S924, S925, S926]) aiX8_back (abX8_back w0) (by decide) (List.forall_mem_cons.mpr ⟨sum_up q924 0, List.forall_mem_cons.mpr ⟨sum_up q925 0, List.forall_mem_cons.mpr ⟨sum_up q926 0, fun _ h => absurd h List.not_mem_nil⟩⟩⟩) (by decide +kernel)
end
section
/-! what is known of the methods, checked (written by emit.py) -/
noncomputable def S945 : Sum1 := (44, [cR 60, cI 0 3, cI 0 60], [], [], [(60, 1, 3), (61, 0, 59)], [([cR 60, cI 0 3, cI 0 60], [((60, 1), 1, 1)], [], none)])
theorem q945 : sum_g w0 (pm_Rt pm_P 1) S945 := meth_okB (d := 0) (cuts := [(17, [([(0, cR 60), (1, cI 0 3), (2, cI 0 60), (3, cI 0 60)], [], [((60, 1), 1, 1), ((60, 2), 0, 3), ((60, 3), 0, 60)], [], [.inl 0, .inr (.inl 3, true), .inl 0])])]) (spl := []) (K := [0, 1, 2]) (N := 12) (sums := []) aiX4_begin (abX4_begin w0) (by decide) (fun _ h => absurd h List.not_mem_nil) (by decide +kernel)
noncomputable def S946 : Sum1 := (44, [cR 58, cI 0 3, cI 0 60], [], [], [(58, 1, 3), (59, 0, 59)], [([cR 58, cI 0 3, cI 0 60], [((58, 1), 1, 1)], [], none)])
theorem q946 : sum_g w0 (pm_Rt pm_P 1) S946 := meth_okB (d := 0) (cuts := [(17, [([(0, cR 58), (1, cI 0 3), (2, cI 0 60), (3, cI 0 60)], [], [((58, 1), 1, 1), ((58, 2), 0, 3), ((58, 3), 0, 60)], [], [.inl 0, .inr (.inl 3, true), .inl 0])])]) (spl := []) (K := [0, 1, 2]) (N := 12) (sums := []) aiX4_begin (abX4_begin w0) (by decide) (fun _ h => absurd h List.not_mem_nil) (by decide +kernel)
noncomputable def S947 : Sum1 := (44, [cR 56, cI 0 3, cI 0 60], [], [], [(56, 1, 3), (57, 0, 59)], [([cR 56, cI 0 3, cI 0 60], [((56, 1), 1, 1)], [], none)])
theorem q947 : sum_g w0 (pm_Rt pm_P 1) S947 := meth_okB (d := 0) (cuts := [(17, [([(0, cR 56), (1, cI 0 3), (2, cI 0 60), (3, cI 0 60)], [], [((56, 1), 1, 1), ((56, 2), 0, 3), ((56, 3), 0, 60)], [], [.inl 0, .inr (.inl 3, true), .inl 0])])]) (spl := []) (K := [0, 1, 2]) (N := 12) (sums := []) aiX4_begin (abX4_begin w0) (by decide) (fun _ h => absurd h List.not_mem_nil) (by decide +kernel)
noncomputable def S948 : Sum1 := (44, [cR 54, cI 0 3, cI 0 60], [], [], [(54, 1, 3), (55, 0, 59)], [([cR 54, cI 0 3, cI 0 60], [((54, 1), 1, 1)], [], none)])
theorem q948 : sum_g w0 (pm_Rt pm_P 1) S948 := meth_okB (d := 0) (cuts := [(17, [([(0, cR 54), (1, cI 0 3), (2, cI 0 60), (3, cI 0 60)], [], [((54, 1), 1, 1), ((54, 2), 0, 3), ((54, 3), 0, 60)], [], [.inl 0, .inr (.inl 3, true), .inl 0])])]) (spl := []) (K := [0, 1, 2]) (N := 12) (sums := []) aiX4_begin (abX4_begin w0) (by decide) (fun _ h => absurd h List.not_mem_nil) (by decide +kernel)
noncomputable def S949 : Sum1 := (171, [cR 0, cI (-2147483648) 2147483647, cI (-2147483648) 2147483647, cI (-2147483648) 2147483647], [], [], [(54, 1, 3), (55, 0, 59), (56, 1, 3), (57, 0, 59), (58, 1, 3), (59, 0, 59), (60, 1, 3), (61, 0, 59)], [([cR 0, cI (-2147483648) 2147483647, cI (-2147483648) 2147483647, cI (-2147483648) 2147483647], [], [], some (.inl (cI (-3) (-2)))), ([cR 0, cI 0 3, cI 0 3, cI 0 60], [], [], some (.inl (cI 0 0)))])
theorem q949 : sum_g w0 (pm_Rt pm_P 2) S949 := meth_okB (d := 1) (cuts := []) (spl := []) (K := [0, 1, 2, 3]) (N := 23) (sums := [S945, S946, S947, S948, S316]) aiX8_row (abX8_row w0) (by decide) (List.forall_mem_cons.mpr ⟨sum_up q945 0, List.forall_mem_cons.mpr ⟨sum_up q946 0, List.forall_mem_cons.mpr ⟨sum_up q947 0, List.forall_mem_cons.mpr ⟨sum_up q948 0, List.forall_mem_cons.mpr ⟨sum_up q316 0, fun _ h => absurd h List.not_mem_nil⟩⟩⟩⟩⟩) (by decide +kernel)
noncomputable def S950 : Sum1 := (338, [cR 77, cI (-2147483648) 2147483647, cI (-2147483648) 2147483647, cI (-2147483648) 2147483647], [], [], [(77, 0, 0), (78, 0, 3), (79, 0, 3), (80, 0, 239)], [([cR 77, cI (-2147483648) 2147483647, cI (-2147483648) 2147483647, cI (-2147483648) 2147483647], [], [], some (.inl (cI (-3) (-2)))), ([cR 77, cI 0 3, cI 0 3, cI 0 60], [], [], some (.inl (cI 0 0)))])
theorem q950 : sum_g w0 (pm_Rt pm_P 3) S950 := meth_okB (d := 2) (cuts := [(57, [([(0, cR 77), (1, cI 0 3), (2, cI 0 3), (3, cI 0 60), (4, cI 0 60)], [], [((77, 0), 0, 0)], [], [.inl 0, .inr (.inl 4, true), .inl 0])])]) (spl := []) (K := [0, 1, 2, 3]) (N := 30) (sums := [S486, S485]) aiX9_row (abX9_row w0) (by decide) (List.forall_mem_cons.mpr ⟨sum_up q486 0, List.forall_mem_cons.mpr ⟨sum_up q485 1, fun _ h => absurd h List.not_mem_nil⟩⟩) (by decide +kernel)
noncomputable def S951 : Sum1 := (97, [cL (-9223372036854775808) 9223372036854775807, cI 0 3], [], [], [], [([cL (-9223372036854775808) 9223372036854775807, cI 0 3], [], [], some (.inl (cL (-9223372036854775808) 9223372036854775807)))])
theorem q951 : sum_g w0 (pm_Rt pm_P 1) S951 := meth_okB (d := 0) (cuts := []) (spl := []) (K := [0, 2]) (N := 8) (sums := []) aiX8_cut (abX8_cut w0) (by decide) (fun _ h => absurd h List.not_mem_nil) (by decide +kernel)
noncomputable def S952 : Sum1 := (203, [cR 0, cI (-2147483648) 2147483647, cI (-2147483648) 2147483647, cL (-9223372036854775808) 9223372036854775807], [], [], [(55, 0, 59), (57, 0, 59), (59, 0, 59), (61, 0, 59)], [([cR 0, cI (-2147483648) 2147483647, cI (-2147483648) 2147483647, cL (-9223372036854775808) 9223372036854775807], [], [], some (.inl (cI (-7) (-2)))), ([cR 0, cI 0 3, cI 0 59, cL (-9223372036854775808) 9223372036854775807], [], [], some (.inl (cI 0 0)))])
theorem q952 : sum_g w0 (pm_Rt pm_P 2) S952 := meth_okB (d := 1) (cuts := []) (spl := []) (K := [0, 1, 2, 3]) (N := 28) (sums := [S316, S951]) aiX8_write (abX8_write w0) (by decide) (List.forall_mem_cons.mpr ⟨sum_up q316 0, List.forall_mem_cons.mpr ⟨sum_up q951 0, fun _ h => absurd h List.not_mem_nil⟩⟩) (by decide +kernel)
noncomputable def S953 : Sum1 := (261, [cL (-2147483648) 2147483647, cL 0 0, cL (-1) 59], [], [], [], [([cL (-2147483648) 2147483647, cL 0 0, cL (-1) 59], [], [], some (.inl (cI 0 0))), ([cL 0 59, cL 0 0, cL 0 59], [], [], some (.inl (cI 1 1)))])
theorem q953 : sum_g w0 (pm_Rt pm_P 1) S953 := meth_okB (d := 0) (cuts := []) (spl := []) (K := [0, 2, 4]) (N := 12) (sums := []) aiX9_in (abX9_in w0) (by decide) (fun _ h => absurd h List.not_mem_nil) (by decide +kernel)
noncomputable def S954 : Sum1 := (236, [cL (-9223372036854775808) 9223372036854775807, cI (-1) 3], [], [], [], [([cL (-9223372036854775808) 9223372036854775807, cI (-1) 3], [], [], some (.inl (cL (-9223372036854775808) 9223372036854775807)))])
theorem q954 : sum_g w0 (pm_Rt pm_P 1) S954 := meth_okB (d := 0) (cuts := []) (spl := []) (K := [0, 2]) (N := 14) (sums := []) aiX9_cut (abX9_cut w0) (by decide) (fun _ h => absurd h List.not_mem_nil) (by decide +kernel)
noncomputable def S955 : Sum1 := (380, [cR 77, cI (-2147483648) 2147483647, cI (-2147483648) 2147483647, cL (-9223372036854775808) 9223372036854775807], [], [], [(77, 0, 0), (80, 0, 239)], [([cR 77, cI (-2147483648) 2147483647, cI (-2147483648) 2147483647, cL (-9223372036854775808) 9223372036854775807], [], [], some (.inl (cI (-7) (-2)))), ([cR 77, cI 0 3, cI 0 59, cL (-9223372036854775808) 9223372036854775807], [], [], some (.inl (cI 0 0)))])
theorem q955 : sum_g w0 (pm_Rt pm_P 3) S955 := meth_okB (d := 2) (cuts := []) (spl := []) (K := [0, 1, 2, 3]) (N := 41) (sums := [S486, S953, S954]) aiX9_write (abX9_write w0) (by decide) (List.forall_mem_cons.mpr ⟨sum_up q486 0, List.forall_mem_cons.mpr ⟨sum_up q953 1, List.forall_mem_cons.mpr ⟨sum_up q954 1, fun _ h => absurd h List.not_mem_nil⟩⟩⟩) (by decide +kernel)
noncomputable def S961 : Sum1 := (323, [cR 77, cI (-2147483648) 2147483647, cI (-2147483648) 2147483647, cI (-2147483648) 2147483647, cI (-2147483648) 2147483647, cI (-2147483648) 2147483647], [], [], [(77, 0, 0), (80, 0, 239), (81, 0, 59)], [([cR 77, cI (-2147483648) 2147483647, cI (-2147483648) 2147483647, cI (-2147483648) 2147483647, cI (-2147483648) 2147483647, cI (-2147483648) 2147483647], [], [], some (.inl (cI (-8) (-2)))), ([cR 77, cI 0 3, cI 0 60, cI 0 3, cI 0 60, cI 0 60], [], [], some (.inl (cI 0 0)))])
theorem q961 : sum_g w0 (pm_Rt pm_P 3) S961 := paq
end
