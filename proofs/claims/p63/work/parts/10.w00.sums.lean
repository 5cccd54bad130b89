section
/-! what is known of the methods, checked (written by emit.py) -/
noncomputable def S0 : Sum1 := (55, [cR 1, cI (-2147483648) 2147483647], [], [], [(1, 1, 1), (2, 0, 499)], [([cR 1, cI (-2147483648) 2147483647], [], [], none)])
theorem q0 : sum_g w0 (pm_Rt pm_P 1) S0 := meth_okB (d := 0) (cuts := [(3, [([(0, cR 1), (1, cI (-2147483648) 2147483647), (2, cI (-8) 24)], [], [], [], [.inl 0, .inr (.inl 2, false), .inl 0])])]) (spl := []) (K := [0, 1]) (N := 24) (sums := []) aiX6_add (abX6_add w0) (by decide) (fun _ h => absurd h List.not_mem_nil) (by decide +kernel)
noncomputable def S1 : Sum1 := (106, [cR 0, cI (-2147483648) 2147483647, cI (-2147483648) 2147483647, cI (-2147483648) 2147483647, cI (-2147483648) 2147483647, cI (-2147483648) 2147483647], [], [], [(1, 1, 1), (2, 0, 499)], [([cR 0, cI (-2147483648) 2147483647, cI (-2147483648) 2147483647, cI (-2147483648) 2147483647, cI (-2147483648) 2147483647, cI (-2147483648) 2147483647], [], [], some (.inl (cI (-1) 500)))])
theorem q1 : sum_g w0 (pm_Rt pm_P 2) S1 := meth_okB (d := 1) (cuts := []) (spl := []) (K := [0, 1, 2, 3, 4, 5]) (N := 30) (sums := [S0]) aiX8_feed (abX8_feed w0) (by decide) (List.forall_mem_cons.mpr ⟨sum_up q0 0, fun _ h => absurd h List.not_mem_nil⟩) (by decide +kernel)
noncomputable def S2 : Sum1 := (252, [cR 77, cI (-2147483648) 2147483647], [((77, 6), 0, 480)], [], [(77, 6, 6), (82, 0, 483)], [([cR 77, cI (-2147483648) 2147483647], [((77, 6), 4, 484)], [], none)])
theorem q2 : sum_g w0 (pm_Rt pm_P 1) S2 := meth_okB (d := 0) (cuts := []) (spl := []) (K := [0, 1]) (N := 82) (sums := []) aiX9_four (abX9_four w0) (by decide) (fun _ h => absurd h List.not_mem_nil) (by decide +kernel)
noncomputable def S3 : Sum1 := (252, [cR 77, cI (-2147483648) 2147483647], [((77, 6), 4, 484)], [], [(77, 6, 6), (82, 4, 487)], [([cR 77, cI (-2147483648) 2147483647], [((77, 6), 8, 488)], [], none)])
theorem q3 : sum_g w0 (pm_Rt pm_P 1) S3 := meth_okB (d := 0) (cuts := []) (spl := []) (K := [0, 1]) (N := 82) (sums := []) aiX9_four (abX9_four w0) (by decide) (fun _ h => absurd h List.not_mem_nil) (by decide +kernel)
noncomputable def S4 : Sum1 := (252, [cR 77, cI (-2147483648) 2147483647], [((77, 6), 8, 488)], [], [(77, 6, 6), (82, 8, 491)], [([cR 77, cI (-2147483648) 2147483647], [((77, 6), 12, 492)], [], none)])
theorem q4 : sum_g w0 (pm_Rt pm_P 1) S4 := meth_okB (d := 0) (cuts := []) (spl := []) (K := [0, 1]) (N := 82) (sums := []) aiX9_four (abX9_four w0) (by decide) (fun _ h => absurd h List.not_mem_nil) (by decide +kernel)
noncomputable def S5 : Sum1 := (252, [cR 77, cI (-2147483648) 2147483647], [((77, 6), 12, 492)], [], [(77, 6, 6), (82, 12, 495)], [([cR 77, cI (-2147483648) 2147483647], [((77, 6), 16, 496)], [], none)])
theorem q5 : sum_g w0 (pm_Rt pm_P 1) S5 := meth_okB (d := 0) (cuts := []) (spl := []) (K := [0, 1]) (N := 82) (sums := []) aiX9_four (abX9_four w0) (by decide) (fun _ h => absurd h List.not_mem_nil) (by decide +kernel)
noncomputable def S6 : Sum1 := (252, [cR 77, cI (-2147483648) 2147483647], [((77, 6), 16, 496)], [], [(77, 6, 6), (82, 16, 499)], [([cR 77, cI (-2147483648) 2147483647], [((77, 6), 20, 500)], [], none)])
theorem q6 : sum_g w0 (pm_Rt pm_P 1) S6 := meth_okB (d := 0) (cuts := []) (spl := []) (K := [0, 1]) (N := 82) (sums := []) aiX9_four (abX9_four w0) (by decide) (fun _ h => absurd h List.not_mem_nil) (by decide +kernel)
noncomputable def S7 : Sum1 := (247, [cR 77, cI (-2147483648) 2147483647, cI (-2147483648) 2147483647, cI (-2147483648) 2147483647, cI (-2147483648) 2147483647, cI (-2147483648) 2147483647], [], [], [(77, 0, 0), (77, 6, 6), (82, 0, 499)], [([cR 77, cI (-2147483648) 2147483647, cI (-2147483648) 2147483647, cI (-2147483648) 2147483647, cI (-2147483648) 2147483647, cI (-2147483648) 2147483647], [((77, 6), 20, 500)], [], some (.inl (cI (-1) 500)))])
theorem q7 : sum_g w0 (pm_Rt pm_P 2) S7 := meth_okB (d := 1) (cuts := []) (spl := []) (K := [0, 1, 2, 3, 4, 5]) (N := 28) (sums := [S2, S3, S4, S5, S6]) aiX9_feed (abX9_feed w0) (by decide) (List.forall_mem_cons.mpr ⟨sum_up q2 0, List.forall_mem_cons.mpr ⟨sum_up q3 0, List.forall_mem_cons.mpr ⟨sum_up q4 0, List.forall_mem_cons.mpr ⟨sum_up q5 0, List.forall_mem_cons.mpr ⟨sum_up q6 0, fun _ h => absurd h List.not_mem_nil⟩⟩⟩⟩⟩) (by decide +kernel)
noncomputable def S8 : Sum1 := (101, [cR 0, cI (-2147483648) 2147483647], [], [], [(1, 1, 1)], [([cR 0, cI (-2147483648) 2147483647], [], [], some (.inl (cI (-1) 500)))])
theorem q8 : sum_g w0 (pm_Rt pm_P 1) S8 := meth_okB (d := 0) (cuts := []) (spl := []) (K := [0, 1]) (N := 14) (sums := []) aiX8_end (abX8_end w0) (by decide) (fun _ h => absurd h List.not_mem_nil) (by decide +kernel)
noncomputable def S9 : Sum1 := (261, [cL (-2147483648) 2147483647, cL 0 0, cL 0 500], [], [], [], [([cL (-2147483648) 2147483647, cL 0 0, cL 0 500], [], [], some (.inl (cI 0 0))), ([cL 0 500, cL 0 0, cL 0 500], [], [], some (.inl (cI 1 1)))])
theorem q9 : sum_g w0 (pm_Rt pm_P 1) S9 := meth_okB (d := 0) (cuts := []) (spl := []) (K := [0, 2, 4]) (N := 12) (sums := []) aiX9_in (abX9_in w0) (by decide) (fun _ h => absurd h List.not_mem_nil) (by decide +kernel)
noncomputable def S10 : Sum1 := (241, [cR 77, cI (-2147483648) 2147483647], [], [], [(77, 0, 0), (77, 6, 6)], [([cR 77, cI (-2147483648) 2147483647], [], [], some (.inl (cI (-1) 500)))])
theorem q10 : sum_g w0 (pm_Rt pm_P 2) S10 := meth_okB (d := 1) (cuts := []) (spl := []) (K := [0, 1]) (N := 17) (sums := [S9]) aiX9_end (abX9_end w0) (by decide) (List.forall_mem_cons.mpr ⟨sum_up q9 0, fun _ h => absurd h List.not_mem_nil⟩) (by decide +kernel)
noncomputable def S11 : Sum1 := (50, [cR 4], [], [], [(4, 0, 6)], [([cR 4], [((4, 0), 0, 0), ((4, 1), 0, 0), ((4, 2), 0, 0), ((4, 3), 0, 0), ((4, 4), 0, 0), ((4, 5), 0, 0), ((4, 6), 0, 0)], [], none)])
theorem q11 : sum_g w0 (pm_Rt pm_P 1) S11 := meth_okB (d := 0) (cuts := []) (spl := []) (K := [0]) (N := 23) (sums := []) aiX5_clear (abX5_clear w0) (by decide) (fun _ h => absurd h List.not_mem_nil) (by decide +kernel)
noncomputable def S12 : Sum1 := (28, [cI (-128) 127], [], [], [], [([cI 97 122], [], [], some (.inl (cI 1 1))), ([cI (-128) 127], [], [], some (.inl (cI 0 0)))])
theorem q12 : sum_g w0 (pm_Rt pm_P 1) S12 := meth_okB (d := 0) (cuts := []) (spl := []) (K := [0]) (N := 10) (sums := []) aiX2_isLetter (abX2_isLetter w0) (by decide) (fun _ h => absurd h List.not_mem_nil) (by decide +kernel)
noncomputable def S13 : Sum1 := (27, [cI (-128) 127], [], [], [], [([cI 48 57], [], [], some (.inl (cI 1 1))), ([cI (-128) 127], [], [], some (.inl (cI 0 0)))])
theorem q13 : sum_g w0 (pm_Rt pm_P 1) S13 := meth_okB (d := 0) (cuts := []) (spl := []) (K := [0]) (N := 10) (sums := []) aiX2_isDigit (abX2_isDigit w0) (by decide) (fun _ h => absurd h List.not_mem_nil) (by decide +kernel)
noncomputable def S14 : Sum1 := (31, [cR 3], [((1, 1), 1, 500), ((3, 6), 0, 499), ((3, 7), 0, 499)], [], [(3, 5, 5), (3, 7, 8)], [([cR 3], [((3, 5), 2, 2)], [], none)])
theorem q14 : sum_g w0 (pm_Rt pm_P 2) S14 := meth_okB (d := 1) (cuts := [(10, [([(0, cR 3)], [], [((1, 1), 1, 500), ((3, 5), 2, 2), ((3, 6), 0, 499), ((3, 7), 0, 500), ((3, 8), (-2147483648), 2147483647)], [], [.inl 0, .inr (.inr (3, 7), true), .inl 0])])]) (spl := []) (K := [0]) (N := 41) (sums := [S13]) aiX2_readDigits (abX2_readDigits w0) (by decide) (List.forall_mem_cons.mpr ⟨sum_up q13 0, fun _ h => absurd h List.not_mem_nil⟩) (by decide +kernel)
noncomputable def S15 : Sum1 := (34, [cR 3], [((1, 1), 1, 500), ((3, 6), 0, 499), ((3, 7), 0, 499)], [], [(3, 5, 5), (3, 7, 7)], [([cR 3], [((3, 5), 1, 1)], [], none)])
theorem q15 : sum_g w0 (pm_Rt pm_P 2) S15 := meth_okB (d := 1) (cuts := [(5, [([(0, cR 3)], [], [((1, 1), 1, 500), ((3, 5), 1, 1), ((3, 6), 0, 499), ((3, 7), 0, 500)], [], [.inl 0, .inr (.inr (3, 7), true), .inl 0])])]) (spl := []) (K := [0]) (N := 22) (sums := [S12]) aiX2_readLetters (abX2_readLetters w0) (by decide) (List.forall_mem_cons.mpr ⟨sum_up q12 0, fun _ h => absurd h List.not_mem_nil⟩) (by decide +kernel)
noncomputable def S16 : Sum1 := (31, [cR 3], [((1, 1), 2, 500), ((3, 6), 1, 499), ((3, 7), 1, 499)], [], [(3, 5, 5), (3, 7, 8)], [([cR 3], [((3, 5), 2, 2), ((3, 7), 1, 500)], [], none)])
theorem q16 : sum_g w0 (pm_Rt pm_P 2) S16 := meth_okB (d := 1) (cuts := [(10, [([(0, cR 3)], [], [((1, 1), 2, 500), ((3, 5), 2, 2), ((3, 6), 1, 499), ((3, 7), 1, 500), ((3, 8), (-2147483648), 2147483647)], [], [.inl 0, .inr (.inr (3, 7), true), .inl 0])])]) (spl := []) (K := [0]) (N := 41) (sums := [S13]) aiX2_readDigits (abX2_readDigits w0) (by decide) (List.forall_mem_cons.mpr ⟨sum_up q13 0, fun _ h => absurd h List.not_mem_nil⟩) (by decide +kernel)
noncomputable def S17 : Sum1 := (34, [cR 3], [((1, 1), 2, 500), ((3, 6), 1, 499), ((3, 7), 1, 499)], [], [(3, 5, 5), (3, 7, 7)], [([cR 3], [((3, 5), 1, 1), ((3, 7), 1, 500)], [], none)])
theorem q17 : sum_g w0 (pm_Rt pm_P 2) S17 := meth_okB (d := 1) (cuts := [(5, [([(0, cR 3)], [], [((1, 1), 2, 500), ((3, 5), 1, 1), ((3, 6), 1, 499), ((3, 7), 1, 500)], [], [.inl 0, .inr (.inr (3, 7), true), .inl 0])])]) (spl := []) (K := [0]) (N := 22) (sums := [S12]) aiX2_readLetters (abX2_readLetters w0) (by decide) (List.forall_mem_cons.mpr ⟨sum_up q12 0, fun _ h => absurd h List.not_mem_nil⟩) (by decide +kernel)
noncomputable def S18 : Sum1 := (37, [cR 3], [], [], [(3, 5, 8)], [([cR 3], [], [], none)])
theorem q18 : sum_g w0 (pm_Rt pm_P 3) S18 := meth_okB (d := 2) (cuts := [(0, [([(0, cR 3)], [], [((1, 1), 1, 500), ((3, 7), 1, 500)], [], [.inl 0, .inr (.inr (3, 7), true), .inl 0])])]) (spl := []) (K := [0]) (N := 68) (sums := [S16, S17, S14, S15, S12, S13]) aiX2_readToken (abX2_readToken w0) (by decide) (List.forall_mem_cons.mpr ⟨sum_up q16 0, List.forall_mem_cons.mpr ⟨sum_up q17 0, List.forall_mem_cons.mpr ⟨sum_up q14 0, List.forall_mem_cons.mpr ⟨sum_up q15 0, List.forall_mem_cons.mpr ⟨sum_up q12 1, List.forall_mem_cons.mpr ⟨sum_up q13 1, fun _ h => absurd h List.not_mem_nil⟩⟩⟩⟩⟩⟩) (by decide +kernel)
noncomputable def S19 : Sum1 := (2, [cO 4], [], [], [], [([cO 4], [], [], some (.inl (cI 0 0)))])
theorem q19 : sum_g w0 (pm_Rt pm_P 1) S19 := meth_okB (d := 0) (cuts := []) (spl := []) (K := [0]) (N := 7) (sums := []) aiJ0_coder_7d493 (abJ0_coder_7d493 w0) (by decide) (fun _ h => absurd h List.not_mem_nil) (by decide +kernel)
noncomputable def S20 : Sum1 := (4, [cO 4], [], [], [], [([cO 4], [], [], some (.inl (cI 6 6)))])
theorem q20 : sum_g w0 (pm_Rt pm_P 2) S20 := meth_okB (d := 1) (cuts := []) (spl := []) (K := [0]) (N := 8) (sums := [S19]) aiJ0_length_8abf5 (abJ0_length_8abf5 w0) (by decide) (List.forall_mem_cons.mpr ⟨sum_up q19 0, fun _ h => absurd h List.not_mem_nil⟩) (by decide +kernel)
noncomputable def S21 : Sum1 := (3, [cO 4], [], [], [], [([cO 4], [], [], some (.inl (cI 1 1)))])
theorem q21 : sum_g w0 (pm_Rt pm_P 1) S21 := meth_okB (d := 0) (cuts := []) (spl := []) (K := [0]) (N := 9) (sums := []) aiJ0_isLatin1_aae02 (abJ0_isLatin1_aae02 w0) (by decide) (fun _ h => absurd h List.not_mem_nil) (by decide +kernel)
noncomputable def S22 : Sum1 := (6, [cI 0 5, cI 6 6, cO 3], [], [], [], [([cI 0 5, cI 6 6, cO 3], [], [], some (.inl (cI 0 5)))])
theorem q22 : sum_g w0 (pm_Rt pm_P 1) S22 := meth_okB (d := 0) (cuts := []) (spl := []) (K := [0, 1, 2]) (N := 8) (sums := []) aiJ3_checkIndex_8e157 (abJ3_checkIndex_8e157 w0) (by decide) (fun _ h => absurd h List.not_mem_nil) (by decide +kernel)
noncomputable def S23 : Sum1 := (1, [cI 0 5, cI 6 6], [], [], [], [([cI 0 5, cI 6 6], [], [], none)])
theorem q23 : sum_g w0 (pm_Rt pm_P 2) S23 := meth_okB (d := 1) (cuts := []) (spl := []) (K := [0, 1]) (N := 7) (sums := [S22]) aiJ0_checkIndex_df160 (abJ0_checkIndex_df160 w0) (by decide) (List.forall_mem_cons.mpr ⟨sum_up q22 0, fun _ h => absurd h List.not_mem_nil⟩) (by decide +kernel)
noncomputable def S24 : Sum1 := (5, [cO 12, cI 0 5], [], [], [], [([cO 12, cI 0 5], [], [], some (.inl (cI 0 127)))])
theorem q24 : sum_g w0 (pm_Rt pm_P 3) S24 := meth_okB (d := 2) (cuts := []) (spl := []) (K := [0, 1]) (N := 12) (sums := [S23]) aiJ1_charAt_3b067 (abJ1_charAt_3b067 w0) (by decide) (List.forall_mem_cons.mpr ⟨sum_up q23 0, fun _ h => absurd h List.not_mem_nil⟩) (by decide +kernel)
noncomputable def S25 : Sum1 := (0, [cO 4, cI 0 5], [], [], [], [([cO 4, cI 0 5], [], [], some (.inl (cI 0 127)))])
theorem q25 : sum_g w0 (pm_Rt pm_P 4) S25 := meth_okB (d := 3) (cuts := []) (spl := []) (K := [0, 1]) (N := 9) (sums := [S21, S24]) aiJ0_charAt_5068e (abJ0_charAt_5068e w0) (by decide) (List.forall_mem_cons.mpr ⟨sum_up q21 2, List.forall_mem_cons.mpr ⟨sum_up q24 0, fun _ h => absurd h List.not_mem_nil⟩⟩) (by decide +kernel)
noncomputable def S26 : Sum1 := (29, [cR 3, cO 4], [], [], [], [([cR 3, cO 4], [], [], some (.inl (cI 0 0))), ([cR 3, cO 4], [((3, 5), 1, 1), ((3, 6), 0, 494), ((3, 7), 6, 500)], [], some (.inl (cI 1 1)))])
theorem q26 : sum_g w0 (pm_Rt pm_P 5) S26 := meth_okB (d := 4) (cuts := [(28, [([(0, cR 3), (1, cO 4), (2, cI 0 6)], [], [((3, 5), 1, 1), ((3, 6), 0, 494), ((3, 7), 6, 500)], [], [.inl 0, .inr (.inl 2, true), .inl 0])])]) (spl := []) (K := [0, 1]) (N := 19) (sums := [S20, S25]) aiX2_isWord (abX2_isWord w0) (by decide) (List.forall_mem_cons.mpr ⟨sum_up q20 2, List.forall_mem_cons.mpr ⟨sum_up q25 0, fun _ h => absurd h List.not_mem_nil⟩⟩) (by decide +kernel)
noncomputable def S27 : Sum1 := (38, [cR 3, cI 1 1], [], [], [(3, 1, 2)], [([cR 3, cI 1 1], [((3, 1), 1, 1), ((3, 2), 0, 500)], [], some (.inl (cI 0 0)))])
theorem q27 : sum_g w0 (pm_Rt pm_P 1) S27 := meth_okB (d := 0) (cuts := []) (spl := []) (K := [0, 1]) (N := 10) (sums := []) aiX2_refuse (abX2_refuse w0) (by decide) (fun _ h => absurd h List.not_mem_nil) (by decide +kernel)
noncomputable def S28 : Sum1 := (41, [cR 3, cO 4], [], [], [(3, 1, 2), (3, 5, 8)], [([cR 3, cO 4], [], [], some (.inl (cI 1 1))), ([cR 3, cO 4], [((3, 1), 1, 1), ((3, 2), 0, 500)], [], some (.inl (cI 0 0)))])
theorem q28 : sum_g w0 (pm_Rt pm_P 6) S28 := meth_okB (d := 5) (cuts := []) (spl := []) (K := [0, 1]) (N := 9) (sums := [S26, S18, S27]) aiX2_takeWord (abX2_takeWord w0) (by decide) (List.forall_mem_cons.mpr ⟨sum_up q26 0, List.forall_mem_cons.mpr ⟨sum_up q18 2, List.forall_mem_cons.mpr ⟨sum_up q27 4, fun _ h => absurd h List.not_mem_nil⟩⟩⟩) (by decide +kernel)
noncomputable def S29 : Sum1 := (2, [cO 5], [], [], [], [([cO 5], [], [], some (.inl (cI 0 0)))])
theorem q29 : sum_g w0 (pm_Rt pm_P 1) S29 := meth_okB (d := 0) (cuts := []) (spl := []) (K := [0]) (N := 7) (sums := []) aiJ0_coder_7d493 (abJ0_coder_7d493 w0) (by decide) (fun _ h => absurd h List.not_mem_nil) (by decide +kernel)
noncomputable def S30 : Sum1 := (4, [cO 5], [], [], [], [([cO 5], [], [], some (.inl (cI 6 6)))])
theorem q30 : sum_g w0 (pm_Rt pm_P 2) S30 := meth_okB (d := 1) (cuts := []) (spl := []) (K := [0]) (N := 8) (sums := [S29]) aiJ0_length_8abf5 (abJ0_length_8abf5 w0) (by decide) (List.forall_mem_cons.mpr ⟨sum_up q29 0, fun _ h => absurd h List.not_mem_nil⟩) (by decide +kernel)
noncomputable def S31 : Sum1 := (3, [cO 5], [], [], [], [([cO 5], [], [], some (.inl (cI 1 1)))])
theorem q31 : sum_g w0 (pm_Rt pm_P 1) S31 := meth_okB (d := 0) (cuts := []) (spl := []) (K := [0]) (N := 9) (sums := []) aiJ0_isLatin1_aae02 (abJ0_isLatin1_aae02 w0) (by decide) (fun _ h => absurd h List.not_mem_nil) (by decide +kernel)
noncomputable def S32 : Sum1 := (5, [cO 13, cI 0 5], [], [], [], [([cO 13, cI 0 5], [], [], some (.inl (cI 0 127)))])
theorem q32 : sum_g w0 (pm_Rt pm_P 3) S32 := meth_okB (d := 2) (cuts := []) (spl := []) (K := [0, 1]) (N := 12) (sums := [S23]) aiJ1_charAt_3b067 (abJ1_charAt_3b067 w0) (by decide) (List.forall_mem_cons.mpr ⟨sum_up q23 0, fun _ h => absurd h List.not_mem_nil⟩) (by decide +kernel)
noncomputable def S33 : Sum1 := (0, [cO 5, cI 0 5], [], [], [], [([cO 5, cI 0 5], [], [], some (.inl (cI 0 127)))])
theorem q33 : sum_g w0 (pm_Rt pm_P 4) S33 := meth_okB (d := 3) (cuts := []) (spl := []) (K := [0, 1]) (N := 9) (sums := [S31, S32]) aiJ0_charAt_5068e (abJ0_charAt_5068e w0) (by decide) (List.forall_mem_cons.mpr ⟨sum_up q31 2, List.forall_mem_cons.mpr ⟨sum_up q32 0, fun _ h => absurd h List.not_mem_nil⟩⟩) (by decide +kernel)
noncomputable def S34 : Sum1 := (29, [cR 3, cO 5], [], [], [], [([cR 3, cO 5], [], [], some (.inl (cI 0 0))), ([cR 3, cO 5], [((3, 5), 1, 1), ((3, 6), 0, 494), ((3, 7), 6, 500)], [], some (.inl (cI 1 1)))])
theorem q34 : sum_g w0 (pm_Rt pm_P 5) S34 := meth_okB (d := 4) (cuts := [(28, [([(0, cR 3), (1, cO 5), (2, cI 0 6)], [], [((3, 5), 1, 1), ((3, 6), 0, 494), ((3, 7), 6, 500)], [], [.inl 0, .inr (.inl 2, true), .inl 0])])]) (spl := []) (K := [0, 1]) (N := 19) (sums := [S30, S33]) aiX2_isWord (abX2_isWord w0) (by decide) (List.forall_mem_cons.mpr ⟨sum_up q30 2, List.forall_mem_cons.mpr ⟨sum_up q33 0, fun _ h => absurd h List.not_mem_nil⟩⟩) (by decide +kernel)
noncomputable def S35 : Sum1 := (41, [cR 3, cO 5], [], [], [(3, 1, 2), (3, 5, 8)], [([cR 3, cO 5], [], [], some (.inl (cI 1 1))), ([cR 3, cO 5], [((3, 1), 1, 1), ((3, 2), 0, 500)], [], some (.inl (cI 0 0)))])
theorem q35 : sum_g w0 (pm_Rt pm_P 6) S35 := meth_okB (d := 5) (cuts := []) (spl := []) (K := [0, 1]) (N := 9) (sums := [S34, S18, S27]) aiX2_takeWord (abX2_takeWord w0) (by decide) (List.forall_mem_cons.mpr ⟨sum_up q34 0, List.forall_mem_cons.mpr ⟨sum_up q18 2, List.forall_mem_cons.mpr ⟨sum_up q27 4, fun _ h => absurd h List.not_mem_nil⟩⟩⟩) (by decide +kernel)
noncomputable def S36 : Sum1 := (38, [cR 3, cI 2 2], [], [], [(3, 1, 2)], [([cR 3, cI 2 2], [((3, 1), 2, 2), ((3, 2), 0, 500)], [], some (.inl (cI 0 0)))])
theorem q36 : sum_g w0 (pm_Rt pm_P 1) S36 := meth_okB (d := 0) (cuts := []) (spl := []) (K := [0, 1]) (N := 10) (sums := []) aiX2_refuse (abX2_refuse w0) (by decide) (fun _ h => absurd h List.not_mem_nil) (by decide +kernel)
noncomputable def S37 : Sum1 := (39, [cR 3, cI 1 1, cI 8 8], [], [], [(3, 1, 2), (3, 5, 9)], [([cR 3, cI 1 1, cI 8 8], [((3, 1), 1, 2), ((3, 2), 0, 500)], [], some (.inl (cI 0 0))), ([cR 3, cI 1 1, cI 8 8], [((3, 9), 1, 8)], [], some (.inl (cI 1 1)))])
theorem q37 : sum_g w0 (pm_Rt pm_P 4) S37 := meth_okB (d := 3) (cuts := []) (spl := []) (K := [0, 1, 2]) (N := 21) (sums := [S27, S36, S18]) aiX2_takeNumber (abX2_takeNumber w0) (by decide) (List.forall_mem_cons.mpr ⟨sum_up q27 2, List.forall_mem_cons.mpr ⟨sum_up q36 2, List.forall_mem_cons.mpr ⟨sum_up q18 0, fun _ h => absurd h List.not_mem_nil⟩⟩⟩) (by decide +kernel)
noncomputable def S38 : Sum1 := (2, [cO 6], [], [], [], [([cO 6], [], [], some (.inl (cI 0 0)))])
theorem q38 : sum_g w0 (pm_Rt pm_P 1) S38 := meth_okB (d := 0) (cuts := []) (spl := []) (K := [0]) (N := 7) (sums := []) aiJ0_coder_7d493 (abJ0_coder_7d493 w0) (by decide) (fun _ h => absurd h List.not_mem_nil) (by decide +kernel)
noncomputable def S39 : Sum1 := (4, [cO 6], [], [], [], [([cO 6], [], [], some (.inl (cI 3 3)))])
theorem q39 : sum_g w0 (pm_Rt pm_P 2) S39 := meth_okB (d := 1) (cuts := []) (spl := []) (K := [0]) (N := 8) (sums := [S38]) aiJ0_length_8abf5 (abJ0_length_8abf5 w0) (by decide) (List.forall_mem_cons.mpr ⟨sum_up q38 0, fun _ h => absurd h List.not_mem_nil⟩) (by decide +kernel)
noncomputable def S40 : Sum1 := (3, [cO 6], [], [], [], [([cO 6], [], [], some (.inl (cI 1 1)))])
theorem q40 : sum_g w0 (pm_Rt pm_P 1) S40 := meth_okB (d := 0) (cuts := []) (spl := []) (K := [0]) (N := 9) (sums := []) aiJ0_isLatin1_aae02 (abJ0_isLatin1_aae02 w0) (by decide) (fun _ h => absurd h List.not_mem_nil) (by decide +kernel)
noncomputable def S41 : Sum1 := (6, [cI 0 2, cI 3 3, cO 3], [], [], [], [([cI 0 2, cI 3 3, cO 3], [], [], some (.inl (cI 0 2)))])
theorem q41 : sum_g w0 (pm_Rt pm_P 1) S41 := meth_okB (d := 0) (cuts := []) (spl := []) (K := [0, 1, 2]) (N := 8) (sums := []) aiJ3_checkIndex_8e157 (abJ3_checkIndex_8e157 w0) (by decide) (fun _ h => absurd h List.not_mem_nil) (by decide +kernel)
noncomputable def S42 : Sum1 := (1, [cI 0 2, cI 3 3], [], [], [], [([cI 0 2, cI 3 3], [], [], none)])
theorem q42 : sum_g w0 (pm_Rt pm_P 2) S42 := meth_okB (d := 1) (cuts := []) (spl := []) (K := [0, 1]) (N := 7) (sums := [S41]) aiJ0_checkIndex_df160 (abJ0_checkIndex_df160 w0) (by decide) (List.forall_mem_cons.mpr ⟨sum_up q41 0, fun _ h => absurd h List.not_mem_nil⟩) (by decide +kernel)
noncomputable def S43 : Sum1 := (5, [cO 14, cI 0 2], [], [], [], [([cO 14, cI 0 2], [], [], some (.inl (cI 0 127)))])
theorem q43 : sum_g w0 (pm_Rt pm_P 3) S43 := meth_okB (d := 2) (cuts := []) (spl := []) (K := [0, 1]) (N := 12) (sums := [S42]) aiJ1_charAt_3b067 (abJ1_charAt_3b067 w0) (by decide) (List.forall_mem_cons.mpr ⟨sum_up q42 0, fun _ h => absurd h List.not_mem_nil⟩) (by decide +kernel)
noncomputable def S44 : Sum1 := (0, [cO 6, cI 0 2], [], [], [], [([cO 6, cI 0 2], [], [], some (.inl (cI 0 127)))])
theorem q44 : sum_g w0 (pm_Rt pm_P 4) S44 := meth_okB (d := 3) (cuts := []) (spl := []) (K := [0, 1]) (N := 9) (sums := [S40, S43]) aiJ0_charAt_5068e (abJ0_charAt_5068e w0) (by decide) (List.forall_mem_cons.mpr ⟨sum_up q40 2, List.forall_mem_cons.mpr ⟨sum_up q43 0, fun _ h => absurd h List.not_mem_nil⟩⟩) (by decide +kernel)
noncomputable def S45 : Sum1 := (29, [cR 3, cO 6], [], [], [], [([cR 3, cO 6], [], [], some (.inl (cI 0 0))), ([cR 3, cO 6], [((3, 5), 1, 1), ((3, 6), 0, 497), ((3, 7), 3, 500)], [], some (.inl (cI 1 1)))])
theorem q45 : sum_g w0 (pm_Rt pm_P 5) S45 := meth_okB (d := 4) (cuts := [(28, [([(0, cR 3), (1, cO 6), (2, cI 0 3)], [], [((3, 5), 1, 1), ((3, 6), 0, 497), ((3, 7), 3, 500)], [], [.inl 0, .inr (.inl 2, true), .inl 0])])]) (spl := []) (K := [0, 1]) (N := 19) (sums := [S39, S44]) aiX2_isWord (abX2_isWord w0) (by decide) (List.forall_mem_cons.mpr ⟨sum_up q39 2, List.forall_mem_cons.mpr ⟨sum_up q44 0, fun _ h => absurd h List.not_mem_nil⟩⟩) (by decide +kernel)
noncomputable def S46 : Sum1 := (41, [cR 3, cO 6], [], [], [(3, 1, 2), (3, 5, 8)], [([cR 3, cO 6], [], [], some (.inl (cI 1 1))), ([cR 3, cO 6], [((3, 1), 1, 1), ((3, 2), 0, 500)], [], some (.inl (cI 0 0)))])
theorem q46 : sum_g w0 (pm_Rt pm_P 6) S46 := meth_okB (d := 5) (cuts := []) (spl := []) (K := [0, 1]) (N := 9) (sums := [S45, S18, S27]) aiX2_takeWord (abX2_takeWord w0) (by decide) (List.forall_mem_cons.mpr ⟨sum_up q45 0, List.forall_mem_cons.mpr ⟨sum_up q18 2, List.forall_mem_cons.mpr ⟨sum_up q27 4, fun _ h => absurd h List.not_mem_nil⟩⟩⟩) (by decide +kernel)
noncomputable def S47 : Sum1 := (39, [cR 3, cI 0 0, cI 3 3], [], [], [(3, 1, 2), (3, 5, 9)], [([cR 3, cI 0 0, cI 3 3], [((3, 1), 1, 2), ((3, 2), 0, 500)], [], some (.inl (cI 0 0))), ([cR 3, cI 0 0, cI 3 3], [((3, 9), 0, 3)], [], some (.inl (cI 1 1)))])
theorem q47 : sum_g w0 (pm_Rt pm_P 4) S47 := meth_okB (d := 3) (cuts := []) (spl := []) (K := [0, 1, 2]) (N := 21) (sums := [S27, S36, S18]) aiX2_takeNumber (abX2_takeNumber w0) (by decide) (List.forall_mem_cons.mpr ⟨sum_up q27 2, List.forall_mem_cons.mpr ⟨sum_up q36 2, List.forall_mem_cons.mpr ⟨sum_up q18 0, fun _ h => absurd h List.not_mem_nil⟩⟩⟩) (by decide +kernel)
noncomputable def S48 : Sum1 := (2, [cO 7], [], [], [], [([cO 7], [], [], some (.inl (cI 0 0)))])
theorem q48 : sum_g w0 (pm_Rt pm_P 1) S48 := meth_okB (d := 0) (cuts := []) (spl := []) (K := [0]) (N := 7) (sums := []) aiJ0_coder_7d493 (abJ0_coder_7d493 w0) (by decide) (fun _ h => absurd h List.not_mem_nil) (by decide +kernel)
noncomputable def S49 : Sum1 := (4, [cO 7], [], [], [], [([cO 7], [], [], some (.inl (cI 4 4)))])
theorem q49 : sum_g w0 (pm_Rt pm_P 2) S49 := meth_okB (d := 1) (cuts := []) (spl := []) (K := [0]) (N := 8) (sums := [S48]) aiJ0_length_8abf5 (abJ0_length_8abf5 w0) (by decide) (List.forall_mem_cons.mpr ⟨sum_up q48 0, fun _ h => absurd h List.not_mem_nil⟩) (by decide +kernel)
noncomputable def S50 : Sum1 := (3, [cO 7], [], [], [], [([cO 7], [], [], some (.inl (cI 1 1)))])
theorem q50 : sum_g w0 (pm_Rt pm_P 1) S50 := meth_okB (d := 0) (cuts := []) (spl := []) (K := [0]) (N := 9) (sums := []) aiJ0_isLatin1_aae02 (abJ0_isLatin1_aae02 w0) (by decide) (fun _ h => absurd h List.not_mem_nil) (by decide +kernel)
noncomputable def S51 : Sum1 := (6, [cI 0 3, cI 4 4, cO 3], [], [], [], [([cI 0 3, cI 4 4, cO 3], [], [], some (.inl (cI 0 3)))])
theorem q51 : sum_g w0 (pm_Rt pm_P 1) S51 := meth_okB (d := 0) (cuts := []) (spl := []) (K := [0, 1, 2]) (N := 8) (sums := []) aiJ3_checkIndex_8e157 (abJ3_checkIndex_8e157 w0) (by decide) (fun _ h => absurd h List.not_mem_nil) (by decide +kernel)
noncomputable def S52 : Sum1 := (1, [cI 0 3, cI 4 4], [], [], [], [([cI 0 3, cI 4 4], [], [], none)])
theorem q52 : sum_g w0 (pm_Rt pm_P 2) S52 := meth_okB (d := 1) (cuts := []) (spl := []) (K := [0, 1]) (N := 7) (sums := [S51]) aiJ0_checkIndex_df160 (abJ0_checkIndex_df160 w0) (by decide) (List.forall_mem_cons.mpr ⟨sum_up q51 0, fun _ h => absurd h List.not_mem_nil⟩) (by decide +kernel)
noncomputable def S53 : Sum1 := (5, [cO 15, cI 0 3], [], [], [], [([cO 15, cI 0 3], [], [], some (.inl (cI 0 127)))])
theorem q53 : sum_g w0 (pm_Rt pm_P 3) S53 := meth_okB (d := 2) (cuts := []) (spl := []) (K := [0, 1]) (N := 12) (sums := [S52]) aiJ1_charAt_3b067 (abJ1_charAt_3b067 w0) (by decide) (List.forall_mem_cons.mpr ⟨sum_up q52 0, fun _ h => absurd h List.not_mem_nil⟩) (by decide +kernel)
noncomputable def S54 : Sum1 := (0, [cO 7, cI 0 3], [], [], [], [([cO 7, cI 0 3], [], [], some (.inl (cI 0 127)))])
theorem q54 : sum_g w0 (pm_Rt pm_P 4) S54 := meth_okB (d := 3) (cuts := []) (spl := []) (K := [0, 1]) (N := 9) (sums := [S50, S53]) aiJ0_charAt_5068e (abJ0_charAt_5068e w0) (by decide) (List.forall_mem_cons.mpr ⟨sum_up q50 2, List.forall_mem_cons.mpr ⟨sum_up q53 0, fun _ h => absurd h List.not_mem_nil⟩⟩) (by decide +kernel)
noncomputable def S55 : Sum1 := (29, [cR 3, cO 7], [], [], [], [([cR 3, cO 7], [], [], some (.inl (cI 0 0))), ([cR 3, cO 7], [((3, 5), 1, 1), ((3, 6), 0, 496), ((3, 7), 4, 500)], [], some (.inl (cI 1 1)))])
theorem q55 : sum_g w0 (pm_Rt pm_P 5) S55 := meth_okB (d := 4) (cuts := [(28, [([(0, cR 3), (1, cO 7), (2, cI 0 4)], [], [((3, 5), 1, 1), ((3, 6), 0, 496), ((3, 7), 4, 500)], [], [.inl 0, .inr (.inl 2, true), .inl 0])])]) (spl := []) (K := [0, 1]) (N := 19) (sums := [S49, S54]) aiX2_isWord (abX2_isWord w0) (by decide) (List.forall_mem_cons.mpr ⟨sum_up q49 2, List.forall_mem_cons.mpr ⟨sum_up q54 0, fun _ h => absurd h List.not_mem_nil⟩⟩) (by decide +kernel)
noncomputable def S56 : Sum1 := (41, [cR 3, cO 7], [], [], [(3, 1, 2), (3, 5, 8)], [([cR 3, cO 7], [], [], some (.inl (cI 1 1))), ([cR 3, cO 7], [((3, 1), 1, 1), ((3, 2), 0, 500)], [], some (.inl (cI 0 0)))])
theorem q56 : sum_g w0 (pm_Rt pm_P 6) S56 := meth_okB (d := 5) (cuts := []) (spl := []) (K := [0, 1]) (N := 9) (sums := [S55, S18, S27]) aiX2_takeWord (abX2_takeWord w0) (by decide) (List.forall_mem_cons.mpr ⟨sum_up q55 0, List.forall_mem_cons.mpr ⟨sum_up q18 2, List.forall_mem_cons.mpr ⟨sum_up q27 4, fun _ h => absurd h List.not_mem_nil⟩⟩⟩) (by decide +kernel)
noncomputable def S57 : Sum1 := (39, [cR 3, cI 0 0, cI 10 10], [], [], [(3, 1, 2), (3, 5, 9)], [([cR 3, cI 0 0, cI 10 10], [((3, 1), 1, 2), ((3, 2), 0, 500)], [], some (.inl (cI 0 0))), ([cR 3, cI 0 0, cI 10 10], [((3, 9), 0, 10)], [], some (.inl (cI 1 1)))])
theorem q57 : sum_g w0 (pm_Rt pm_P 4) S57 := meth_okB (d := 3) (cuts := []) (spl := []) (K := [0, 1, 2]) (N := 21) (sums := [S27, S36, S18]) aiX2_takeNumber (abX2_takeNumber w0) (by decide) (List.forall_mem_cons.mpr ⟨sum_up q27 2, List.forall_mem_cons.mpr ⟨sum_up q36 2, List.forall_mem_cons.mpr ⟨sum_up q18 0, fun _ h => absurd h List.not_mem_nil⟩⟩⟩) (by decide +kernel)
noncomputable def S58 : Sum1 := (160, [cI 1 9], [], [], [], [([cI 1 9], [], [], some (.inl (cI 1 256)))])
theorem q58 : sum_g w0 (pm_Rt pm_P 1) S58 := meth_okB (d := 0) (cuts := []) (spl := []) (K := [0]) (N := 7) (sums := []) aiX8_placeBit (abX8_placeBit w0) (by decide) (fun _ h => absurd h List.not_mem_nil) (by decide +kernel)
noncomputable def S59 : Sum1 := (18, [cR 13, cI 2 9], [], [], [(13, 1, 1), (14, 1, 9)], [([cR 13, cI 2 9], [((13, 1), 2, 9)], [], none)])
theorem q59 : sum_g w0 (pm_Rt pm_P 2) S59 := meth_okB (d := 1) (cuts := [(7, [([(0, cR 13), (1, cI 2 9), (2, cI 1 10)], [], [((13, 1), 2, 9)], [], [.inl 0, .inr (.inl 2, true), .inl 0])])]) (spl := []) (K := [0, 1]) (N := 13) (sums := [S58]) aiX0_start (abX0_start w0) (by decide) (List.forall_mem_cons.mpr ⟨sum_up q58 0, fun _ h => absurd h List.not_mem_nil⟩) (by decide +kernel)
end
section
/-! what is known of the methods, checked (written by emit.py) -/
noncomputable def S60 : Sum1 := (32, [cR 3], [], [], [(3, 1, 2), (3, 5, 9), (4, 0, 2), (13, 1, 1), (14, 1, 9)], [([cR 3], [((3, 1), 1, 2), ((3, 2), 0, 500)], [], some (.inl (cI 0 0))), ([cR 3], [((3, 9), 0, 10), ((4, 0), 1, 8), ((13, 1), 2, 9)], [], some (.inl (cI 1 1)))])
theorem q60 : sum_g w0 (pm_Rt pm_P 7) S60 := meth_okB (d := 6) (cuts := []) (spl := []) (K := [0]) (N := 57) (sums := [S28, S35, S37, S46, S47, S56, S57, S59]) aiX2_readHead (abX2_readHead w0) (by decide) (List.forall_mem_cons.mpr ⟨sum_up q28 0, List.forall_mem_cons.mpr ⟨sum_up q35 0, List.forall_mem_cons.mpr ⟨sum_up q37 2, List.forall_mem_cons.mpr ⟨sum_up q46 0, List.forall_mem_cons.mpr ⟨sum_up q47 2, List.forall_mem_cons.mpr ⟨sum_up q56 0, List.forall_mem_cons.mpr ⟨sum_up q57 2, List.forall_mem_cons.mpr ⟨sum_up q59 4, fun _ h => absurd h List.not_mem_nil⟩⟩⟩⟩⟩⟩⟩⟩) (by decide +kernel)
noncomputable def S61 : Sum1 := (2, [cO 8], [], [], [], [([cO 8], [], [], some (.inl (cI 0 0)))])
theorem q61 : sum_g w0 (pm_Rt pm_P 1) S61 := meth_okB (d := 0) (cuts := []) (spl := []) (K := [0]) (N := 7) (sums := []) aiJ0_coder_7d493 (abJ0_coder_7d493 w0) (by decide) (fun _ h => absurd h List.not_mem_nil) (by decide +kernel)
noncomputable def S62 : Sum1 := (4, [cO 8], [], [], [], [([cO 8], [], [], some (.inl (cI 3 3)))])
theorem q62 : sum_g w0 (pm_Rt pm_P 2) S62 := meth_okB (d := 1) (cuts := []) (spl := []) (K := [0]) (N := 8) (sums := [S61]) aiJ0_length_8abf5 (abJ0_length_8abf5 w0) (by decide) (List.forall_mem_cons.mpr ⟨sum_up q61 0, fun _ h => absurd h List.not_mem_nil⟩) (by decide +kernel)
noncomputable def S63 : Sum1 := (3, [cO 8], [], [], [], [([cO 8], [], [], some (.inl (cI 1 1)))])
theorem q63 : sum_g w0 (pm_Rt pm_P 1) S63 := meth_okB (d := 0) (cuts := []) (spl := []) (K := [0]) (N := 9) (sums := []) aiJ0_isLatin1_aae02 (abJ0_isLatin1_aae02 w0) (by decide) (fun _ h => absurd h List.not_mem_nil) (by decide +kernel)
noncomputable def S64 : Sum1 := (5, [cO 16, cI 0 2], [], [], [], [([cO 16, cI 0 2], [], [], some (.inl (cI 0 127)))])
theorem q64 : sum_g w0 (pm_Rt pm_P 3) S64 := meth_okB (d := 2) (cuts := []) (spl := []) (K := [0, 1]) (N := 12) (sums := [S42]) aiJ1_charAt_3b067 (abJ1_charAt_3b067 w0) (by decide) (List.forall_mem_cons.mpr ⟨sum_up q42 0, fun _ h => absurd h List.not_mem_nil⟩) (by decide +kernel)
noncomputable def S65 : Sum1 := (0, [cO 8, cI 0 2], [], [], [], [([cO 8, cI 0 2], [], [], some (.inl (cI 0 127)))])
theorem q65 : sum_g w0 (pm_Rt pm_P 4) S65 := meth_okB (d := 3) (cuts := []) (spl := []) (K := [0, 1]) (N := 9) (sums := [S63, S64]) aiJ0_charAt_5068e (abJ0_charAt_5068e w0) (by decide) (List.forall_mem_cons.mpr ⟨sum_up q63 2, List.forall_mem_cons.mpr ⟨sum_up q64 0, fun _ h => absurd h List.not_mem_nil⟩⟩) (by decide +kernel)
noncomputable def S66 : Sum1 := (29, [cR 3, cO 8], [], [], [], [([cR 3, cO 8], [], [], some (.inl (cI 0 0))), ([cR 3, cO 8], [((3, 5), 1, 1), ((3, 6), 0, 497), ((3, 7), 3, 500)], [], some (.inl (cI 1 1)))])
theorem q66 : sum_g w0 (pm_Rt pm_P 5) S66 := meth_okB (d := 4) (cuts := [(28, [([(0, cR 3), (1, cO 8), (2, cI 0 3)], [], [((3, 5), 1, 1), ((3, 6), 0, 497), ((3, 7), 3, 500)], [], [.inl 0, .inr (.inl 2, true), .inl 0])])]) (spl := []) (K := [0, 1]) (N := 19) (sums := [S62, S65]) aiX2_isWord (abX2_isWord w0) (by decide) (List.forall_mem_cons.mpr ⟨sum_up q62 2, List.forall_mem_cons.mpr ⟨sum_up q65 0, fun _ h => absurd h List.not_mem_nil⟩⟩) (by decide +kernel)
noncomputable def S67 : Sum1 := (38, [cR 3, cI 3 3], [], [], [(3, 1, 2)], [([cR 3, cI 3 3], [((3, 1), 3, 3), ((3, 2), 0, 500)], [], some (.inl (cI 0 0)))])
theorem q67 : sum_g w0 (pm_Rt pm_P 1) S67 := meth_okB (d := 0) (cuts := []) (spl := []) (K := [0, 1]) (N := 10) (sums := []) aiX2_refuse (abX2_refuse w0) (by decide) (fun _ h => absurd h List.not_mem_nil) (by decide +kernel)
noncomputable def S68 : Sum1 := (41, [cR 3, cO 8], [], [], [(3, 1, 2), (3, 5, 8)], [([cR 3, cO 8], [], [], some (.inl (cI 1 1))), ([cR 3, cO 8], [((3, 1), 1, 1), ((3, 2), 0, 500)], [], some (.inl (cI 0 0)))])
theorem q68 : sum_g w0 (pm_Rt pm_P 6) S68 := meth_okB (d := 5) (cuts := []) (spl := []) (K := [0, 1]) (N := 9) (sums := [S66, S18, S27]) aiX2_takeWord (abX2_takeWord w0) (by decide) (List.forall_mem_cons.mpr ⟨sum_up q66 0, List.forall_mem_cons.mpr ⟨sum_up q18 2, List.forall_mem_cons.mpr ⟨sum_up q27 4, fun _ h => absurd h List.not_mem_nil⟩⟩⟩) (by decide +kernel)
noncomputable def S69 : Sum1 := (2, [cO 9], [], [], [], [([cO 9], [], [], some (.inl (cI 0 0)))])
theorem q69 : sum_g w0 (pm_Rt pm_P 1) S69 := meth_okB (d := 0) (cuts := []) (spl := []) (K := [0]) (N := 7) (sums := []) aiJ0_coder_7d493 (abJ0_coder_7d493 w0) (by decide) (fun _ h => absurd h List.not_mem_nil) (by decide +kernel)
noncomputable def S70 : Sum1 := (4, [cO 9], [], [], [], [([cO 9], [], [], some (.inl (cI 5 5)))])
theorem q70 : sum_g w0 (pm_Rt pm_P 2) S70 := meth_okB (d := 1) (cuts := []) (spl := []) (K := [0]) (N := 8) (sums := [S69]) aiJ0_length_8abf5 (abJ0_length_8abf5 w0) (by decide) (List.forall_mem_cons.mpr ⟨sum_up q69 0, fun _ h => absurd h List.not_mem_nil⟩) (by decide +kernel)
noncomputable def S71 : Sum1 := (3, [cO 9], [], [], [], [([cO 9], [], [], some (.inl (cI 1 1)))])
theorem q71 : sum_g w0 (pm_Rt pm_P 1) S71 := meth_okB (d := 0) (cuts := []) (spl := []) (K := [0]) (N := 9) (sums := []) aiJ0_isLatin1_aae02 (abJ0_isLatin1_aae02 w0) (by decide) (fun _ h => absurd h List.not_mem_nil) (by decide +kernel)
noncomputable def S72 : Sum1 := (6, [cI 0 4, cI 5 5, cO 3], [], [], [], [([cI 0 4, cI 5 5, cO 3], [], [], some (.inl (cI 0 4)))])
theorem q72 : sum_g w0 (pm_Rt pm_P 1) S72 := meth_okB (d := 0) (cuts := []) (spl := []) (K := [0, 1, 2]) (N := 8) (sums := []) aiJ3_checkIndex_8e157 (abJ3_checkIndex_8e157 w0) (by decide) (fun _ h => absurd h List.not_mem_nil) (by decide +kernel)
noncomputable def S73 : Sum1 := (1, [cI 0 4, cI 5 5], [], [], [], [([cI 0 4, cI 5 5], [], [], none)])
theorem q73 : sum_g w0 (pm_Rt pm_P 2) S73 := meth_okB (d := 1) (cuts := []) (spl := []) (K := [0, 1]) (N := 7) (sums := [S72]) aiJ0_checkIndex_df160 (abJ0_checkIndex_df160 w0) (by decide) (List.forall_mem_cons.mpr ⟨sum_up q72 0, fun _ h => absurd h List.not_mem_nil⟩) (by decide +kernel)
noncomputable def S74 : Sum1 := (5, [cO 17, cI 0 4], [], [], [], [([cO 17, cI 0 4], [], [], some (.inl (cI 0 127)))])
theorem q74 : sum_g w0 (pm_Rt pm_P 3) S74 := meth_okB (d := 2) (cuts := []) (spl := []) (K := [0, 1]) (N := 12) (sums := [S73]) aiJ1_charAt_3b067 (abJ1_charAt_3b067 w0) (by decide) (List.forall_mem_cons.mpr ⟨sum_up q73 0, fun _ h => absurd h List.not_mem_nil⟩) (by decide +kernel)
noncomputable def S75 : Sum1 := (0, [cO 9, cI 0 4], [], [], [], [([cO 9, cI 0 4], [], [], some (.inl (cI 0 127)))])
theorem q75 : sum_g w0 (pm_Rt pm_P 4) S75 := meth_okB (d := 3) (cuts := []) (spl := []) (K := [0, 1]) (N := 9) (sums := [S71, S74]) aiJ0_charAt_5068e (abJ0_charAt_5068e w0) (by decide) (List.forall_mem_cons.mpr ⟨sum_up q71 2, List.forall_mem_cons.mpr ⟨sum_up q74 0, fun _ h => absurd h List.not_mem_nil⟩⟩) (by decide +kernel)
noncomputable def S76 : Sum1 := (29, [cR 3, cO 9], [], [], [], [([cR 3, cO 9], [], [], some (.inl (cI 0 0))), ([cR 3, cO 9], [((3, 5), 1, 1), ((3, 6), 0, 495), ((3, 7), 5, 500)], [], some (.inl (cI 1 1)))])
theorem q76 : sum_g w0 (pm_Rt pm_P 5) S76 := meth_okB (d := 4) (cuts := [(28, [([(0, cR 3), (1, cO 9), (2, cI 0 5)], [], [((3, 5), 1, 1), ((3, 6), 0, 495), ((3, 7), 5, 500)], [], [.inl 0, .inr (.inl 2, true), .inl 0])])]) (spl := []) (K := [0, 1]) (N := 19) (sums := [S70, S75]) aiX2_isWord (abX2_isWord w0) (by decide) (List.forall_mem_cons.mpr ⟨sum_up q70 2, List.forall_mem_cons.mpr ⟨sum_up q75 0, fun _ h => absurd h List.not_mem_nil⟩⟩) (by decide +kernel)
noncomputable def S77 : Sum1 := (41, [cR 3, cO 9], [], [], [(3, 1, 2), (3, 5, 8)], [([cR 3, cO 9], [], [], some (.inl (cI 1 1))), ([cR 3, cO 9], [((3, 1), 1, 1), ((3, 2), 0, 500)], [], some (.inl (cI 0 0)))])
theorem q77 : sum_g w0 (pm_Rt pm_P 6) S77 := meth_okB (d := 5) (cuts := []) (spl := []) (K := [0, 1]) (N := 9) (sums := [S76, S18, S27]) aiX2_takeWord (abX2_takeWord w0) (by decide) (List.forall_mem_cons.mpr ⟨sum_up q76 0, List.forall_mem_cons.mpr ⟨sum_up q18 2, List.forall_mem_cons.mpr ⟨sum_up q27 4, fun _ h => absurd h List.not_mem_nil⟩⟩⟩) (by decide +kernel)
noncomputable def S78 : Sum1 := (39, [cR 3, cI 1 1, cI 1 8], [], [], [(3, 1, 2), (3, 5, 9)], [([cR 3, cI 1 1, cI 1 8], [((3, 1), 1, 2), ((3, 2), 0, 500)], [], some (.inl (cI 0 0))), ([cR 3, cI 1 1, cI 1 8], [((3, 9), 1, 8)], [], some (.inl (cI 1 1)))])
theorem q78 : sum_g w0 (pm_Rt pm_P 4) S78 := meth_okB (d := 3) (cuts := []) (spl := []) (K := [0, 1, 2]) (N := 21) (sums := [S27, S36, S18]) aiX2_takeNumber (abX2_takeNumber w0) (by decide) (List.forall_mem_cons.mpr ⟨sum_up q27 2, List.forall_mem_cons.mpr ⟨sum_up q36 2, List.forall_mem_cons.mpr ⟨sum_up q18 0, fun _ h => absurd h List.not_mem_nil⟩⟩⟩) (by decide +kernel)
noncomputable def S79 : Sum1 := (2, [cO 10], [], [], [], [([cO 10], [], [], some (.inl (cI 0 0)))])
theorem q79 : sum_g w0 (pm_Rt pm_P 1) S79 := meth_okB (d := 0) (cuts := []) (spl := []) (K := [0]) (N := 7) (sums := []) aiJ0_coder_7d493 (abJ0_coder_7d493 w0) (by decide) (fun _ h => absurd h List.not_mem_nil) (by decide +kernel)
noncomputable def S80 : Sum1 := (4, [cO 10], [], [], [], [([cO 10], [], [], some (.inl (cI 6 6)))])
theorem q80 : sum_g w0 (pm_Rt pm_P 2) S80 := meth_okB (d := 1) (cuts := []) (spl := []) (K := [0]) (N := 8) (sums := [S79]) aiJ0_length_8abf5 (abJ0_length_8abf5 w0) (by decide) (List.forall_mem_cons.mpr ⟨sum_up q79 0, fun _ h => absurd h List.not_mem_nil⟩) (by decide +kernel)
noncomputable def S81 : Sum1 := (3, [cO 10], [], [], [], [([cO 10], [], [], some (.inl (cI 1 1)))])
theorem q81 : sum_g w0 (pm_Rt pm_P 1) S81 := meth_okB (d := 0) (cuts := []) (spl := []) (K := [0]) (N := 9) (sums := []) aiJ0_isLatin1_aae02 (abJ0_isLatin1_aae02 w0) (by decide) (fun _ h => absurd h List.not_mem_nil) (by decide +kernel)
noncomputable def S82 : Sum1 := (5, [cO 18, cI 0 5], [], [], [], [([cO 18, cI 0 5], [], [], some (.inl (cI 0 127)))])
theorem q82 : sum_g w0 (pm_Rt pm_P 3) S82 := meth_okB (d := 2) (cuts := []) (spl := []) (K := [0, 1]) (N := 12) (sums := [S23]) aiJ1_charAt_3b067 (abJ1_charAt_3b067 w0) (by decide) (List.forall_mem_cons.mpr ⟨sum_up q23 0, fun _ h => absurd h List.not_mem_nil⟩) (by decide +kernel)
noncomputable def S83 : Sum1 := (0, [cO 10, cI 0 5], [], [], [], [([cO 10, cI 0 5], [], [], some (.inl (cI 0 127)))])
theorem q83 : sum_g w0 (pm_Rt pm_P 4) S83 := meth_okB (d := 3) (cuts := []) (spl := []) (K := [0, 1]) (N := 9) (sums := [S81, S82]) aiJ0_charAt_5068e (abJ0_charAt_5068e w0) (by decide) (List.forall_mem_cons.mpr ⟨sum_up q81 2, List.forall_mem_cons.mpr ⟨sum_up q82 0, fun _ h => absurd h List.not_mem_nil⟩⟩) (by decide +kernel)
noncomputable def S84 : Sum1 := (29, [cR 3, cO 10], [], [], [], [([cR 3, cO 10], [], [], some (.inl (cI 0 0))), ([cR 3, cO 10], [((3, 5), 1, 1), ((3, 6), 0, 494), ((3, 7), 6, 500)], [], some (.inl (cI 1 1)))])
theorem q84 : sum_g w0 (pm_Rt pm_P 5) S84 := meth_okB (d := 4) (cuts := [(28, [([(0, cR 3), (1, cO 10), (2, cI 0 6)], [], [((3, 5), 1, 1), ((3, 6), 0, 494), ((3, 7), 6, 500)], [], [.inl 0, .inr (.inl 2, true), .inl 0])])]) (spl := []) (K := [0, 1]) (N := 19) (sums := [S80, S83]) aiX2_isWord (abX2_isWord w0) (by decide) (List.forall_mem_cons.mpr ⟨sum_up q80 2, List.forall_mem_cons.mpr ⟨sum_up q83 0, fun _ h => absurd h List.not_mem_nil⟩⟩) (by decide +kernel)
noncomputable def S85 : Sum1 := (41, [cR 3, cO 10], [], [], [(3, 1, 2), (3, 5, 8)], [([cR 3, cO 10], [], [], some (.inl (cI 1 1))), ([cR 3, cO 10], [((3, 1), 1, 1), ((3, 2), 0, 500)], [], some (.inl (cI 0 0)))])
theorem q85 : sum_g w0 (pm_Rt pm_P 6) S85 := meth_okB (d := 5) (cuts := []) (spl := []) (K := [0, 1]) (N := 9) (sums := [S84, S18, S27]) aiX2_takeWord (abX2_takeWord w0) (by decide) (List.forall_mem_cons.mpr ⟨sum_up q84 0, List.forall_mem_cons.mpr ⟨sum_up q18 2, List.forall_mem_cons.mpr ⟨sum_up q27 4, fun _ h => absurd h List.not_mem_nil⟩⟩⟩) (by decide +kernel)
noncomputable def S86 : Sum1 := (39, [cR 3, cI 0 0, cI 99 99], [], [], [(3, 1, 2), (3, 5, 9)], [([cR 3, cI 0 0, cI 99 99], [((3, 1), 1, 2), ((3, 2), 0, 500)], [], some (.inl (cI 0 0))), ([cR 3, cI 0 0, cI 99 99], [], [], some (.inl (cI 1 1)))])
theorem q86 : sum_g w0 (pm_Rt pm_P 4) S86 := meth_okB (d := 3) (cuts := []) (spl := []) (K := [0, 1, 2]) (N := 21) (sums := [S27, S36, S18]) aiX2_takeNumber (abX2_takeNumber w0) (by decide) (List.forall_mem_cons.mpr ⟨sum_up q27 2, List.forall_mem_cons.mpr ⟨sum_up q36 2, List.forall_mem_cons.mpr ⟨sum_up q18 0, fun _ h => absurd h List.not_mem_nil⟩⟩⟩) (by decide +kernel)
noncomputable def S87 : Sum1 := (48, [cR 4, cI 1 8, cI 0 99], [], [], [(4, 4, 4), (5, 0, 7), (6, 0, 7), (7, 0, 7)], [([cR 4, cI 1 8, cI 0 99], [((4, 4), 1, 8)], [], none)])
theorem q87 : sum_g w0 (pm_Rt pm_P 1) S87 := meth_okB (d := 0) (cuts := []) (spl := []) (K := [0, 1, 2]) (N := 30) (sums := []) aiX5_addCar (abX5_addCar w0) (by decide) (fun _ h => absurd h List.not_mem_nil) (by decide +kernel)
noncomputable def S88 : Sum1 := (30, [cR 3], [], [], [(3, 1, 2), (3, 5, 9), (4, 4, 4), (5, 0, 7), (6, 0, 7), (7, 0, 7)], [([cR 3], [((3, 1), 1, 3), ((3, 2), 0, 500)], [], some (.inl (cI 0 0))), ([cR 3], [((4, 0), 1, 8), ((4, 4), 1, 8)], [], some (.inl (cI 1 1)))])
theorem q88 : sum_g w0 (pm_Rt pm_P 7) S88 := meth_okB (d := 6) (cuts := []) (spl := []) (K := [0]) (N := 43) (sums := [S67, S68, S77, S85, S86, S78, S87]) aiX2_readCar (abX2_readCar w0) (by decide) (List.forall_mem_cons.mpr ⟨sum_up q67 5, List.forall_mem_cons.mpr ⟨sum_up q68 0, List.forall_mem_cons.mpr ⟨sum_up q77 0, List.forall_mem_cons.mpr ⟨sum_up q85 0, List.forall_mem_cons.mpr ⟨sum_up q86 2, List.forall_mem_cons.mpr ⟨sum_up q78 2, List.forall_mem_cons.mpr ⟨sum_up q87 5, fun _ h => absurd h List.not_mem_nil⟩⟩⟩⟩⟩⟩⟩) (by decide +kernel)
noncomputable def S89 : Sum1 := (2, [cO 11], [], [], [], [([cO 11], [], [], some (.inl (cI 0 0)))])
theorem q89 : sum_g w0 (pm_Rt pm_P 1) S89 := meth_okB (d := 0) (cuts := []) (spl := []) (K := [0]) (N := 7) (sums := []) aiJ0_coder_7d493 (abJ0_coder_7d493 w0) (by decide) (fun _ h => absurd h List.not_mem_nil) (by decide +kernel)
noncomputable def S90 : Sum1 := (4, [cO 11], [], [], [], [([cO 11], [], [], some (.inl (cI 4 4)))])
theorem q90 : sum_g w0 (pm_Rt pm_P 2) S90 := meth_okB (d := 1) (cuts := []) (spl := []) (K := [0]) (N := 8) (sums := [S89]) aiJ0_length_8abf5 (abJ0_length_8abf5 w0) (by decide) (List.forall_mem_cons.mpr ⟨sum_up q89 0, fun _ h => absurd h List.not_mem_nil⟩) (by decide +kernel)
noncomputable def S91 : Sum1 := (3, [cO 11], [], [], [], [([cO 11], [], [], some (.inl (cI 1 1)))])
theorem q91 : sum_g w0 (pm_Rt pm_P 1) S91 := meth_okB (d := 0) (cuts := []) (spl := []) (K := [0]) (N := 9) (sums := []) aiJ0_isLatin1_aae02 (abJ0_isLatin1_aae02 w0) (by decide) (fun _ h => absurd h List.not_mem_nil) (by decide +kernel)
noncomputable def S92 : Sum1 := (5, [cO 19, cI 0 3], [], [], [], [([cO 19, cI 0 3], [], [], some (.inl (cI 0 127)))])
theorem q92 : sum_g w0 (pm_Rt pm_P 3) S92 := meth_okB (d := 2) (cuts := []) (spl := []) (K := [0, 1]) (N := 12) (sums := [S52]) aiJ1_charAt_3b067 (abJ1_charAt_3b067 w0) (by decide) (List.forall_mem_cons.mpr ⟨sum_up q52 0, fun _ h => absurd h List.not_mem_nil⟩) (by decide +kernel)
noncomputable def S93 : Sum1 := (0, [cO 11, cI 0 3], [], [], [], [([cO 11, cI 0 3], [], [], some (.inl (cI 0 127)))])
theorem q93 : sum_g w0 (pm_Rt pm_P 4) S93 := meth_okB (d := 3) (cuts := []) (spl := []) (K := [0, 1]) (N := 9) (sums := [S91, S92]) aiJ0_charAt_5068e (abJ0_charAt_5068e w0) (by decide) (List.forall_mem_cons.mpr ⟨sum_up q91 2, List.forall_mem_cons.mpr ⟨sum_up q92 0, fun _ h => absurd h List.not_mem_nil⟩⟩) (by decide +kernel)
noncomputable def S94 : Sum1 := (29, [cR 3, cO 11], [], [], [], [([cR 3, cO 11], [], [], some (.inl (cI 0 0))), ([cR 3, cO 11], [((3, 5), 1, 1), ((3, 6), 0, 496), ((3, 7), 4, 500)], [], some (.inl (cI 1 1)))])
theorem q94 : sum_g w0 (pm_Rt pm_P 5) S94 := meth_okB (d := 4) (cuts := [(28, [([(0, cR 3), (1, cO 11), (2, cI 0 4)], [], [((3, 5), 1, 1), ((3, 6), 0, 496), ((3, 7), 4, 500)], [], [.inl 0, .inr (.inl 2, true), .inl 0])])]) (spl := []) (K := [0, 1]) (N := 19) (sums := [S90, S93]) aiX2_isWord (abX2_isWord w0) (by decide) (List.forall_mem_cons.mpr ⟨sum_up q90 2, List.forall_mem_cons.mpr ⟨sum_up q93 0, fun _ h => absurd h List.not_mem_nil⟩⟩) (by decide +kernel)
noncomputable def S95 : Sum1 := (41, [cR 3, cO 11], [], [], [(3, 1, 2), (3, 5, 8)], [([cR 3, cO 11], [], [], some (.inl (cI 1 1))), ([cR 3, cO 11], [((3, 1), 1, 1), ((3, 2), 0, 500)], [], some (.inl (cI 0 0)))])
theorem q95 : sum_g w0 (pm_Rt pm_P 6) S95 := meth_okB (d := 5) (cuts := []) (spl := []) (K := [0, 1]) (N := 9) (sums := [S94, S18, S27]) aiX2_takeWord (abX2_takeWord w0) (by decide) (List.forall_mem_cons.mpr ⟨sum_up q94 0, List.forall_mem_cons.mpr ⟨sum_up q18 2, List.forall_mem_cons.mpr ⟨sum_up q27 4, fun _ h => absurd h List.not_mem_nil⟩⟩⟩) (by decide +kernel)
noncomputable def S96 : Sum1 := (39, [cR 3, cI 1 1, cI 1 9], [], [], [(3, 1, 2), (3, 5, 9)], [([cR 3, cI 1 1, cI 1 9], [((3, 1), 1, 2), ((3, 2), 0, 500)], [], some (.inl (cI 0 0))), ([cR 3, cI 1 1, cI 1 9], [((3, 9), 1, 9)], [], some (.inl (cI 1 1)))])
theorem q96 : sum_g w0 (pm_Rt pm_P 4) S96 := meth_okB (d := 3) (cuts := []) (spl := []) (K := [0, 1, 2]) (N := 21) (sums := [S27, S36, S18]) aiX2_takeNumber (abX2_takeNumber w0) (by decide) (List.forall_mem_cons.mpr ⟨sum_up q27 2, List.forall_mem_cons.mpr ⟨sum_up q36 2, List.forall_mem_cons.mpr ⟨sum_up q18 0, fun _ h => absurd h List.not_mem_nil⟩⟩⟩) (by decide +kernel)
noncomputable def S97 : Sum1 := (12, [cR 13, cI 0 511, cI 0 511], [], [], [], [([cR 13, cI 0 511, cI 0 511], [], [], some (.inl (cI 1 1))), ([cR 13, cI 0 511, cI 0 511], [], [], some (.inl (cI 0 0)))])
theorem q97 : sum_g w0 (pm_Rt pm_P 2) S97 := meth_okB (d := 1) (cuts := [(8, [([(0, cR 13), (1, cI 0 511), (2, cI 0 511), (3, cI (-2147483648) 2147483647), (4, cI 0 2), (5, cI 1 10)], [], [], [], [.inl 0, .inr (.inl 5, true), .inl 0])])]) (spl := []) (K := [0, 1, 2]) (N := 29) (sums := [S58]) aiX0_crosses (abX0_crosses w0) (by decide) (List.forall_mem_cons.mpr ⟨sum_up q58 0, fun _ h => absurd h List.not_mem_nil⟩) (by decide +kernel)
noncomputable def S98 : Sum1 := (16, [cR 13, cI 1 9, cI (-2147483648) 2147483647], [], [], [], [([cR 13, cI 1 9, cI (-2147483648) 2147483647], [], [], some (.inl (cI 0 0))), ([cR 13, cI 1 9, cI 1 9], [((13, 1), 1, 9)], [], some (.inl (cI 1 1)))])
theorem q98 : sum_g w0 (pm_Rt pm_P 3) S98 := meth_okB (d := 2) (cuts := [(60, [([(0, cR 13), (1, cI 1 9), (2, cI 1 9), (3, cI 0 511), (4, cI 1 10)], [], [((13, 1), 1, 9)], [], [.inl 0, .inr (.inl 4, true), .inl 0])])]) (spl := []) (K := [0, 1, 2]) (N := 36) (sums := [S58, S97]) aiX0_joinable (abX0_joinable w0) (by decide) (List.forall_mem_cons.mpr ⟨sum_up q58 1, List.forall_mem_cons.mpr ⟨sum_up q97 0, fun _ h => absurd h List.not_mem_nil⟩⟩) (by decide +kernel)
noncomputable def S99 : Sum1 := (15, [cR 13, cI 1 9, cI 1 9], [], [], [(14, 1, 9)], [([cR 13, cI 1 9, cI 1 9], [], [], none)])
theorem q99 : sum_g w0 (pm_Rt pm_P 2) S99 := meth_okB (d := 1) (cuts := [(17, [([(0, cR 13), (1, cI 1 9), (2, cI 1 9), (3, cI 0 511), (4, cI 1 10)], [], [], [], [.inl 0, .inr (.inl 4, true), .inl 0])])]) (spl := []) (K := [0, 1, 2]) (N := 17) (sums := [S58]) aiX0_join (abX0_join w0) (by decide) (List.forall_mem_cons.mpr ⟨sum_up q58 0, fun _ h => absurd h List.not_mem_nil⟩) (by decide +kernel)
noncomputable def S100 : Sum1 := (49, [cR 4, cI 1 9, cI 1 9], [], [], [(4, 5, 5), (8, 0, 7), (9, 0, 7)], [([cR 4, cI 1 9, cI 1 9], [((4, 5), 1, 8)], [], none)])
theorem q100 : sum_g w0 (pm_Rt pm_P 1) S100 := meth_okB (d := 0) (cuts := []) (spl := []) (K := [0, 1, 2]) (N := 24) (sums := []) aiX5_addJoin (abX5_addJoin w0) (by decide) (fun _ h => absurd h List.not_mem_nil) (by decide +kernel)
noncomputable def S101 : Sum1 := (33, [cR 3], [], [], [(3, 1, 2), (3, 5, 9), (4, 5, 5), (8, 0, 7), (9, 0, 7), (14, 1, 9)], [([cR 3], [((3, 1), 1, 2), ((3, 2), 0, 500)], [], some (.inl (cI 0 0))), ([cR 3], [((3, 9), 1, 9), ((4, 5), 1, 8)], [], some (.inl (cI 1 1)))])
theorem q101 : sum_g w0 (pm_Rt pm_P 7) S101 := meth_okB (d := 6) (cuts := []) (spl := []) (K := [0]) (N := 51) (sums := [S95, S36, S96, S99, S100, S98]) aiX2_readJoin (abX2_readJoin w0) (by decide) (List.forall_mem_cons.mpr ⟨sum_up q95 0, List.forall_mem_cons.mpr ⟨sum_up q36 5, List.forall_mem_cons.mpr ⟨sum_up q96 2, List.forall_mem_cons.mpr ⟨sum_up q99 4, List.forall_mem_cons.mpr ⟨sum_up q100 5, List.forall_mem_cons.mpr ⟨sum_up q98 3, fun _ h => absurd h List.not_mem_nil⟩⟩⟩⟩⟩⟩) (by decide +kernel)
noncomputable def S102 : Sum1 := (35, [cR 3], [], [], [(3, 1, 2), (3, 5, 9), (4, 0, 2), (4, 4, 5), (5, 0, 7), (6, 0, 7), (7, 0, 7), (8, 0, 7), (9, 0, 7), (13, 1, 1), (14, 1, 9)], [([cR 3], [], [], some (.inl (cI 1 1))), ([cR 3], [((3, 1), 1, 3), ((3, 2), 0, 500)], [], some (.inl (cI 0 0)))])
theorem q102 : sum_g w0 (pm_Rt pm_P 8) S102 := meth_okB (d := 7) (cuts := []) (spl := []) (K := [0]) (N := 12) (sums := [S60, S66, S88, S101]) aiX2_readLine (abX2_readLine w0) (by decide) (List.forall_mem_cons.mpr ⟨sum_up q60 0, List.forall_mem_cons.mpr ⟨sum_up q66 2, List.forall_mem_cons.mpr ⟨sum_up q88 0, List.forall_mem_cons.mpr ⟨sum_up q101 0, fun _ h => absurd h List.not_mem_nil⟩⟩⟩⟩) (by decide +kernel)
noncomputable def S103 : Sum1 := (40, [cR 3], [], [], [(3, 1, 2), (3, 5, 8)], [([cR 3], [((3, 1), 1, 1), ((3, 2), 0, 500)], [], some (.inl (cI 0 0))), ([cR 3], [], [], some (.inl (cI 1 1)))])
theorem q103 : sum_g w0 (pm_Rt pm_P 4) S103 := meth_okB (d := 3) (cuts := []) (spl := []) (K := [0]) (N := 9) (sums := [S27, S18]) aiX2_takeSemicolon (abX2_takeSemicolon w0) (by decide) (List.forall_mem_cons.mpr ⟨sum_up q27 2, List.forall_mem_cons.mpr ⟨sum_up q18 0, fun _ h => absurd h List.not_mem_nil⟩⟩) (by decide +kernel)
noncomputable def S104 : Sum1 := (36, [cR 3], [], [], [(3, 1, 2), (3, 5, 9), (4, 0, 6), (5, 0, 7), (6, 0, 7), (7, 0, 7), (8, 0, 7), (9, 0, 7), (13, 1, 1), (14, 1, 9)], [([cR 3], [((4, 6), 0, 0)], [], none)])
theorem q104 : sum_g w0 (pm_Rt pm_P 9) S104 := meth_okB (d := 8) (cuts := [(28, [([(0, cR 3), (1, cI 0 500)], [], [((4, 3), (-2147483648), 2147483647), ((4, 6), 0, 0)], [], [.inl 0, .inr (.inl 1, true), .inl 0])])]) (spl := []) (K := [0]) (N := 25) (sums := [S11, S18, S102, S103]) aiX2_readTape (abX2_readTape w0) (by decide) (List.forall_mem_cons.mpr ⟨sum_up q11 7, List.forall_mem_cons.mpr ⟨sum_up q18 5, List.forall_mem_cons.mpr ⟨sum_up q102 0, List.forall_mem_cons.mpr ⟨sum_up q103 4, fun _ h => absurd h List.not_mem_nil⟩⟩⟩⟩) (by decide +kernel)
noncomputable def S105 : Sum1 := (54, [cR 15, cR 4], [], [20, 41], [(15, 0, 6), (16, 0, 7), (17, 0, 7), (18, 0, 7), (19, 0, 7), (20, 0, 7), (21, 0, 19), (22, 0, 19), (23, 0, 19)], [([cR 15, cR 4], [], [41], none)])
theorem q105 : sum_g w0 (pm_Rt pm_P 1) S105 := tkq_15_4
noncomputable def S106 : Sum1 := (185, [cR 0], [], [20, 41], [(1, 1, 1), (3, 1, 2), (3, 5, 9), (4, 0, 6), (5, 0, 7), (6, 0, 7), (7, 0, 7), (8, 0, 7), (9, 0, 7), (13, 1, 1), (14, 1, 9), (15, 0, 6), (16, 0, 7), (17, 0, 7), (18, 0, 7), (19, 0, 7), (20, 0, 7), (21, 0, 19), (22, 0, 19), (23, 0, 19)], [([cR 0], [((1, 1), 0, 0), ((4, 6), 0, 0)], [41], some (.inl (cI (-2147483648) 2147483647)))])
theorem q106 : sum_g w0 (pm_Rt pm_P 10) S106 := meth_okB (d := 9) (cuts := []) (spl := []) (K := [0]) (N := 22) (sums := [S104, S105]) aiX8_street (abX8_street w0) (by decide) (List.forall_mem_cons.mpr ⟨sum_up q104 0, List.forall_mem_cons.mpr ⟨sum_up q105 8, fun _ h => absurd h List.not_mem_nil⟩⟩) (by decide +kernel)
noncomputable def S107 : Sum1 := (105, [cR 0, cI (-2147483648) 2147483647], [], [], [], [([cR 0, cI (-2147483648) 2147483647], [], [], some (.inl (cI (-1) 500)))])
theorem q107 : sum_g w0 (pm_Rt pm_P 1) S107 := meth_okB (d := 0) (cuts := []) (spl := []) (K := [0, 1]) (N := 11) (sums := []) aiX8_fault (abX8_fault w0) (by decide) (fun _ h => absurd h List.not_mem_nil) (by decide +kernel)
noncomputable def S108 : Sum1 := (246, [cR 77, cI (-2147483648) 2147483647], [], [], [(77, 0, 0)], [([cR 77, cI (-2147483648) 2147483647], [], [], some (.inl (cI (-1) 500)))])
theorem q108 : sum_g w0 (pm_Rt pm_P 1) S108 := meth_okB (d := 0) (cuts := []) (spl := []) (K := [0, 1]) (N := 13) (sums := []) aiX9_fault (abX9_fault w0) (by decide) (fun _ h => absurd h List.not_mem_nil) (by decide +kernel)
noncomputable def S109 : Sum1 := (114, [cR 0, cI (-2147483648) 2147483647], [], [], [], [([cR 0, cI 0 7], [((15, 4), 1, 8)], [], some (.inl (cI 1 1))), ([cR 0, cI (-2147483648) 2147483647], [], [], some (.inl (cI 0 0)))])
theorem q109 : sum_g w0 (pm_Rt pm_P 1) S109 := meth_okB (d := 0) (cuts := []) (spl := []) (K := [0, 1]) (N := 11) (sums := []) aiX8_hasCar (abX8_hasCar w0) (by decide) (fun _ h => absurd h List.not_mem_nil) (by decide +kernel)
noncomputable def S110 : Sum1 := (129, [cI (-2147483648) 2147483647], [], [], [], [([cI 0 1], [], [], some (.inl (cI 1 1))), ([cI (-2147483648) 2147483647], [], [], some (.inl (cI 0 0)))])
theorem q110 : sum_g w0 (pm_Rt pm_P 1) S110 := meth_okB (d := 0) (cuts := []) (spl := []) (K := [0]) (N := 9) (sums := []) aiX8_isTerm (abX8_isTerm w0) (by decide) (fun _ h => absurd h List.not_mem_nil) (by decide +kernel)
noncomputable def S111 : Sum1 := (89, [cR 0, cI (-2147483648) 2147483647, cI (-2147483648) 2147483647], [], [], [], [([cR 0, cI (-2147483648) 2147483647, cI (-2147483648) 2147483647], [], [], some (.inl (cI (-2) 99)))])
theorem q111 : sum_g w0 (pm_Rt pm_P 2) S111 := meth_okB (d := 1) (cuts := []) (spl := []) (K := [0, 1, 2]) (N := 17) (sums := [S109, S110]) aiX8_car (abX8_car w0) (by decide) (List.forall_mem_cons.mpr ⟨sum_up q109 0, List.forall_mem_cons.mpr ⟨sum_up q110 0, fun _ h => absurd h List.not_mem_nil⟩⟩) (by decide +kernel)
noncomputable def S112 : Sum1 := (224, [cR 77], [], [], [], [([cR 77], [((84, 3), 0, 8)], [], some (.inr (84, 3)))])
theorem q112 : sum_g w0 (pm_Rt pm_P 1) S112 := meth_okB (d := 0) (cuts := []) (spl := []) (K := [0]) (N := 6) (sums := []) aiX9_cars (abX9_cars w0) (by decide) (fun _ h => absurd h List.not_mem_nil) (by decide +kernel)
noncomputable def S113 : Sum1 := (261, [cL (-2147483648) 2147483647, cL 0 0, cL (-1) 7], [], [], [], [([cL (-2147483648) 2147483647, cL 0 0, cL (-1) 7], [], [], some (.inl (cI 0 0))), ([cL 0 7, cL 0 0, cL 0 7], [], [], some (.inl (cI 1 1)))])
theorem q113 : sum_g w0 (pm_Rt pm_P 1) S113 := meth_okB (d := 0) (cuts := []) (spl := []) (K := [0, 2, 4]) (N := 12) (sums := []) aiX9_in (abX9_in w0) (by decide) (fun _ h => absurd h List.not_mem_nil) (by decide +kernel)
noncomputable def S114 : Sum1 := (267, [cR 77, cL (-2147483648) 2147483647], [], [], [], [([cR 77, cL 0 7], [], [], some (.inl (cI 1 1))), ([cR 77, cL (-2147483648) 2147483647], [], [], some (.inl (cI 0 0)))])
theorem q114 : sum_g w0 (pm_Rt pm_P 2) S114 := meth_okB (d := 1) (cuts := []) (spl := []) (K := [0, 1]) (N := 10) (sums := [S112, S113]) aiX9_isCar (abX9_isCar w0) (by decide) (List.forall_mem_cons.mpr ⟨sum_up q112 0, List.forall_mem_cons.mpr ⟨sum_up q113 0, fun _ h => absurd h List.not_mem_nil⟩⟩) (by decide +kernel)
noncomputable def S115 : Sum1 := (261, [cL (-2147483648) 2147483647, cL 0 0, cL 1 1], [], [], [], [([cL (-2147483648) 2147483647, cL 0 0, cL 1 1], [], [], some (.inl (cI 0 0))), ([cL 0 1, cL 0 0, cL 1 1], [], [], some (.inl (cI 1 1)))])
theorem q115 : sum_g w0 (pm_Rt pm_P 1) S115 := meth_okB (d := 0) (cuts := []) (spl := []) (K := [0, 2, 4]) (N := 12) (sums := []) aiX9_in (abX9_in w0) (by decide) (fun _ h => absurd h List.not_mem_nil) (by decide +kernel)
noncomputable def S116 : Sum1 := (270, [cI (-2147483648) 2147483647], [], [], [], [([cI 0 1], [], [], some (.inl (cI 1 1))), ([cI (-2147483648) 2147483647], [], [], some (.inl (cI 0 0)))])
theorem q116 : sum_g w0 (pm_Rt pm_P 2) S116 := meth_okB (d := 1) (cuts := []) (spl := []) (K := [0]) (N := 7) (sums := [S115]) aiX9_isHalf (abX9_isHalf w0) (by decide) (List.forall_mem_cons.mpr ⟨sum_up q115 0, fun _ h => absurd h List.not_mem_nil⟩) (by decide +kernel)
noncomputable def S117 : Sum1 := (361, [cR 77, cI 0 7, cI 0 7], [], [], [(89, 0, 7)], [([cR 77, cI 0 7, cI 0 7], [], [], none)])
theorem q117 : sum_g w0 (pm_Rt pm_P 1) S117 := meth_okB (d := 0) (cuts := []) (spl := []) (K := [0, 1, 2]) (N := 20) (sums := []) aiX9_trade (abX9_trade w0) (by decide) (fun _ h => absurd h List.not_mem_nil) (by decide +kernel)
noncomputable def ah1_X9_lays : List (Nat × AR w0) := [(0, .inl (R_al 0 1)), (1, .inl (R_al 0 2)), (2, .inl (R_getf 9 17 5)), (5, .inl (R_const (.int 1) 6)), (6, .inl (R_iald 7)), (7, .inl (R_putf 9 22 (.int) 10)), (10, .inl (R_al 0 11)), (11, .inl (R_const (.int 1) 12)), (12, .inl (R_al 0 13)), (13, .inr (.inl (224, 1, some 9, 0, 0))), (16, .inl (R_shl 17)), (17, .inl (R_const (.int 1) 18)), (18, .inl (R_sub 19)), (19, .inl (R_putf 9 23 (.int) 22)), (22, .inl (R_const (.int 0) 23)), (23, .inl (R_is 1 24)), (24, .inl (R_il 1 25)), (25, .inl (R_al 0 26)), (26, .inr (.inl (224, 1, some 9, 0, 0))), (29, .inl (R_if2_ge 52 32)), (32, .inl (R_al 0 33)), (33, .inl (R_getf 9 24 36)), (36, .inl (R_il 1 37)), (37, .inl (R_al 0 38)), (38, .inl (R_getf 9 18 41)), (41, .inl (R_const (.int 2) 42)), (42, .inl (R_il 1 43)), (43, .inl (R_mul 44)), (44, .inl (R_iald 45)), (45, .inl (R_iast 46)), (46, .inl (R_inc 1 1 49)), (49, .inl (R_goto 24)), (52, .inl (R_const (.int 0) 53)), (53, .inl (R_is 1 54)), (54, .inl (R_il 1 55)), (55, .inl (R_al 0 56)), (56, .inl (R_getf 9 17 59)), (59, .inl (R_const (.int 5) 60)), (60, .inl (R_iald 61)), (61, .inl (R_if2_ge 119 64)), (64, .inl (R_al 0 65)), (65, .inl (R_getf 9 20 68)), (68, .inl (R_const (.int 3) 69)), (69, .inl (R_il 1 70)), (70, .inl (R_mul 71)), (71, .inl (R_const (.int 1) 72)), (72, .inl (R_add 73)), (73, .inl (R_iald 74)), (74, .inl (R_is 2 75)), (75, .inl (R_al 0 76)), (76, .inl (R_getf 9 20 79)), (79, .inl (R_const (.int 3) 80)), (80, .inl (R_il 1 81)), (81, .inl (R_mul 82)), (82, .inl (R_const (.int 2) 83)), (83, .inl (R_add 84)), (84, .inl (R_iald 85)), (85, .inl (R_is 3 86)), (86, .inl (R_al 0 87)), (87, .inl (R_getf 9 20 90)), (90, .inl (R_const (.int 3) 91)), (91, .inl (R_il 1 92)), (92, .inl (R_mul 93)), (93, .inl (R_iald 94)), (94, .inl (R_h (R_if1_ne 107 97) (h_use 5) (h_use_ok 5))), (97, .inl (R_al 0 98)), (98, .inl (R_getf 9 24 101)), (101, .inl (R_il 2 102)), (102, .inl (R_il 3 103)), (103, .inl (R_iast 104)), (104, .inl (R_goto 113)), (107, .inl (R_al 0 108)), (108, .inl (R_il 2 109)), (109, .inl (R_il 3 110)), (110, .inr (.inl (361, 3, some 9, 0, 0))), (113, .inl (R_inc 1 1 116)), (116, .inl (R_goto 54)), (119, .inr (.inr 0))]
set_option maxRecDepth 20000 in
theorem bah1_X9_lays : iX9_lays.2.2.2.2.2.2.2 = ar_tab ah1_X9_lays := rfl
noncomputable def S118 : Sum1 := (293, [cR 77], [], [125], [(77, 22, 23), (89, 0, 7)], [([cR 77], [((77, 23), 0, 255)], [], none)])
theorem q118 : sum_g w0 (pm_Rt pm_P 2) S118 := meth_okB (d := 1) (cuts := [(24, [([(1, cI 0 0), (0, cR 77)], [], [((77, 22), 0, 3), ((77, 23), 0, 255)], [125], [.inl 29]), ([(1, cI 1 1), (0, cR 77)], [], [((77, 22), 0, 3), ((77, 23), 0, 255), ((84, 3), 1, 8)], [125], [.inl 28]), ([(1, cI 2 2), (0, cR 77)], [], [((77, 22), 0, 3), ((77, 23), 0, 255), ((84, 3), 2, 8)], [125], [.inl 27]), ([(1, cI 3 3), (0, cR 77)], [], [((77, 22), 0, 3), ((77, 23), 0, 255), ((84, 3), 3, 8)], [125], [.inl 26]), ([(1, cI 4 4), (0, cR 77)], [], [((77, 22), 0, 3), ((77, 23), 0, 255), ((84, 3), 4, 8)], [125], [.inl 25]), ([(1, cI 5 5), (0, cR 77)], [], [((77, 22), 0, 3), ((77, 23), 0, 255), ((84, 3), 5, 8)], [125], [.inl 24]), ([(1, cI 6 6), (0, cR 77)], [], [((77, 22), 0, 3), ((77, 23), 0, 255), ((84, 3), 6, 8)], [125], [.inl 23]), ([(1, cI 7 7), (0, cR 77)], [], [((77, 22), 0, 3), ((77, 23), 0, 255), ((84, 3), 7, 8)], [125], [.inl 22]), ([(1, cI 8 8), (0, cR 77)], [], [((77, 22), 0, 3), ((77, 23), 0, 255), ((84, 3), 8, 8)], [125], [.inl 21])]), (54, [([(1, cI 0 0), (0, cR 77)], [], [((77, 22), 0, 3), ((77, 23), 0, 255), ((84, 3), 0, 8)], [125], [.inl 20]), ([(1, cI 1 1), (0, cR 77), (2, cI 0 7), (3, cI 0 8)], [], [((77, 22), 0, 3), ((77, 23), 0, 255), ((84, 5), 1, 20), ((87, 0), 0, 1)], [125], [.inl 19]), ([(1, cI 2 2), (0, cR 77), (2, cI 0 7), (3, cI 0 8)], [], [((77, 22), 0, 3), ((77, 23), 0, 255), ((84, 5), 2, 20), ((87, 3), 0, 1)], [125], [.inl 18]), ([(1, cI 3 3), (0, cR 77), (2, cI 0 7), (3, cI 0 8)], [], [((77, 22), 0, 3), ((77, 23), 0, 255), ((84, 5), 3, 20), ((87, 6), 0, 1)], [125], [.inl 17]), ([(1, cI 4 4), (0, cR 77), (2, cI 0 7), (3, cI 0 8)], [], [((77, 22), 0, 3), ((77, 23), 0, 255), ((84, 5), 4, 20), ((87, 9), 0, 1)], [125], [.inl 16]), ([(1, cI 5 5), (0, cR 77), (2, cI 0 7), (3, cI 0 8)], [], [((77, 22), 0, 3), ((77, 23), 0, 255), ((84, 5), 5, 20), ((87, 12), 0, 1)], [125], [.inl 15]), ([(1, cI 6 6), (0, cR 77), (2, cI 0 7), (3, cI 0 8)], [], [((77, 22), 0, 3), ((77, 23), 0, 255), ((84, 5), 6, 20), ((87, 15), 0, 1)], [125], [.inl 14]), ([(1, cI 7 7), (0, cR 77), (2, cI 0 7), (3, cI 0 8)], [], [((77, 22), 0, 3), ((77, 23), 0, 255), ((84, 5), 7, 20), ((87, 18), 0, 1)], [125], [.inl 13]), ([(1, cI 8 8), (0, cR 77), (2, cI 0 7), (3, cI 0 8)], [], [((77, 22), 0, 3), ((77, 23), 0, 255), ((84, 5), 8, 20), ((87, 21), 0, 1)], [125], [.inl 12]), ([(1, cI 9 9), (0, cR 77), (2, cI 0 7), (3, cI 0 8)], [], [((77, 22), 0, 3), ((77, 23), 0, 255), ((84, 5), 9, 20), ((87, 24), 0, 1)], [125], [.inl 11]), ([(1, cI 10 10), (0, cR 77), (2, cI 0 7), (3, cI 0 8)], [], [((77, 22), 0, 3), ((77, 23), 0, 255), ((84, 5), 10, 20), ((87, 27), 0, 1)], [125], [.inl 10]), ([(1, cI 11 11), (0, cR 77), (2, cI 0 7), (3, cI 0 8)], [], [((77, 22), 0, 3), ((77, 23), 0, 255), ((84, 5), 11, 20), ((87, 30), 0, 1)], [125], [.inl 9]), ([(1, cI 12 12), (0, cR 77), (2, cI 0 7), (3, cI 0 8)], [], [((77, 22), 0, 3), ((77, 23), 0, 255), ((84, 5), 12, 20), ((87, 33), 0, 1)], [125], [.inl 8]), ([(1, cI 13 13), (0, cR 77), (2, cI 0 7), (3, cI 0 8)], [], [((77, 22), 0, 3), ((77, 23), 0, 255), ((84, 5), 13, 20), ((87, 36), 0, 1)], [125], [.inl 7]), ([(1, cI 14 14), (0, cR 77), (2, cI 0 7), (3, cI 0 8)], [], [((77, 22), 0, 3), ((77, 23), 0, 255), ((84, 5), 14, 20), ((87, 39), 0, 1)], [125], [.inl 6]), ([(1, cI 15 15), (0, cR 77), (2, cI 0 7), (3, cI 0 8)], [], [((77, 22), 0, 3), ((77, 23), 0, 255), ((84, 5), 15, 20), ((87, 42), 0, 1)], [125], [.inl 5]), ([(1, cI 16 16), (0, cR 77), (2, cI 0 7), (3, cI 0 8)], [], [((77, 22), 0, 3), ((77, 23), 0, 255), ((84, 5), 16, 20), ((87, 45), 0, 1)], [125], [.inl 4]), ([(1, cI 17 17), (0, cR 77), (2, cI 0 7), (3, cI 0 8)], [], [((77, 22), 0, 3), ((77, 23), 0, 255), ((84, 5), 17, 20), ((87, 48), 0, 1)], [125], [.inl 3]), ([(1, cI 18 18), (0, cR 77), (2, cI 0 7), (3, cI 0 8)], [], [((77, 22), 0, 3), ((77, 23), 0, 255), ((84, 5), 18, 20), ((87, 51), 0, 1)], [125], [.inl 2]), ([(1, cI 19 19), (0, cR 77), (2, cI 0 7), (3, cI 0 8)], [], [((77, 22), 0, 3), ((77, 23), 0, 255), ((84, 5), 19, 20), ((87, 54), 0, 1)], [125], [.inl 1]), ([(1, cI 20 20), (0, cR 77), (2, cI 0 7), (3, cI 0 8)], [], [((77, 22), 0, 3), ((77, 23), 0, 255), ((84, 5), 20, 20), ((87, 57), 0, 1)], [125], [.inl 0])])]) (spl := []) (K := [0]) (N := 40) (sums := [S112, S117]) aiX9_lays bah1_X9_lays (by decide) (List.forall_mem_cons.mpr ⟨sum_up q112 0, List.forall_mem_cons.mpr ⟨sum_up q117 0, fun _ h => absurd h List.not_mem_nil⟩⟩) (by decide +kernel)
noncomputable def S119 : Sum1 := (222, [cR 77, cI (-2147483648) 2147483647, cI (-2147483648) 2147483647], [], [125], [(77, 0, 0), (77, 22, 23), (89, 0, 7)], [([cR 77, cI (-2147483648) 2147483647, cI (-2147483648) 2147483647], [], [], some (.inl (cI (-2) 99)))])
theorem q119 : sum_g w0 (pm_Rt pm_P 3) S119 := meth_okB (d := 2) (cuts := []) (spl := []) (K := [0, 1, 2]) (N := 25) (sums := [S118, S114, S116]) aiX9_car (abX9_car w0) (by decide) (List.forall_mem_cons.mpr ⟨sum_up q118 0, List.forall_mem_cons.mpr ⟨sum_up q114 0, List.forall_mem_cons.mpr ⟨sum_up q116 0, fun _ h => absurd h List.not_mem_nil⟩⟩⟩) (by decide +kernel)
end
section
/-! what is known of the methods, checked (written by emit.py) -/
noncomputable def S120 : Sum1 := (103, [cR 0], [], [], [], [([cR 0], [], [], some (.inl (cI 0 255)))])
theorem q120 : sum_g w0 (pm_Rt pm_P 1) S120 := meth_okB (d := 0) (cuts := []) (spl := []) (K := [0]) (N := 9) (sums := []) aiX8_everyCar (abX8_everyCar w0) (by decide) (fun _ h => absurd h List.not_mem_nil) (by decide +kernel)
noncomputable def S121 : Sum1 := (23, [cI 0 511, cI 0 8], [], [], [], [([cI 0 511, cI 0 8], [], [], some (.inl (cI 1 1))), ([cI 0 511, cI 0 8], [], [], some (.inl (cI 0 0)))])
theorem q121 : sum_g w0 (pm_Rt pm_P 1) S121 := meth_okB (d := 0) (cuts := []) (spl := []) (K := [0, 1]) (N := 12) (sums := []) aiX1_isFree (abX1_isFree w0) (by decide) (fun _ h => absurd h List.not_mem_nil) (by decide +kernel)
noncomputable def S122 : Sum1 := (23, [cI 0 511, cI 1 7], [], [], [], [([cI 0 511, cI 1 7], [], [], some (.inl (cI 1 1))), ([cI 0 511, cI 1 7], [], [], some (.inl (cI 0 0)))])
theorem q122 : sum_g w0 (pm_Rt pm_P 1) S122 := meth_okB (d := 0) (cuts := []) (spl := []) (K := [0, 1]) (N := 12) (sums := []) aiX1_isFree (abX1_isFree w0) (by decide) (fun _ h => absurd h List.not_mem_nil) (by decide +kernel)
noncomputable def S123 : Sum1 := (23, [cI 0 511, cI 3 8], [], [], [], [([cI 0 511, cI 3 8], [], [], some (.inl (cI 1 1))), ([cI 0 511, cI 3 8], [], [], some (.inl (cI 0 0)))])
theorem q123 : sum_g w0 (pm_Rt pm_P 1) S123 := meth_okB (d := 0) (cuts := []) (spl := []) (K := [0, 1]) (N := 12) (sums := []) aiX1_isFree (abX1_isFree w0) (by decide) (fun _ h => absurd h List.not_mem_nil) (by decide +kernel)
noncomputable def S124 : Sum1 := (21, [cI 0 8, cI 0 511, cI 3 9], [], [], [], [([cI 3 8, cI 0 511, cI 3 9], [], [], some (.inl (cI 3 8))), ([cI 0 8, cI 0 511, cI 3 9], [], [], some (.inl (cI 0 0)))])
theorem q124 : sum_g w0 (pm_Rt pm_P 2) S124 := meth_okB (d := 1) (cuts := [(2, [([(0, cI 0 8), (1, cI 0 511), (2, cI 3 9), (3, cI 3 9)], [], [], [], [.inl 0, .inr (.inl 3, true), .inl 0])])]) (spl := []) (K := [0, 1, 2]) (N := 10) (sums := [S123]) aiX1_firstFree (abX1_firstFree w0) (by decide) (List.forall_mem_cons.mpr ⟨sum_up q123 0, fun _ h => absurd h List.not_mem_nil⟩) (by decide +kernel)
noncomputable def S125 : Sum1 := (23, [cI 0 511, cI 1 8], [], [], [], [([cI 0 511, cI 1 8], [], [], some (.inl (cI 1 1))), ([cI 0 511, cI 1 8], [], [], some (.inl (cI 0 0)))])
theorem q125 : sum_g w0 (pm_Rt pm_P 1) S125 := meth_okB (d := 0) (cuts := []) (spl := []) (K := [0, 1]) (N := 12) (sums := []) aiX1_isFree (abX1_isFree w0) (by decide) (fun _ h => absurd h List.not_mem_nil) (by decide +kernel)
noncomputable def S126 : Sum1 := (21, [cI 0 8, cI 0 511, cI 1 2], [], [], [], [([cI 1 8, cI 0 511, cI 1 2], [], [], some (.inl (cI 1 8))), ([cI 0 8, cI 0 511, cI 1 2], [], [], some (.inl (cI 0 0)))])
theorem q126 : sum_g w0 (pm_Rt pm_P 2) S126 := meth_okB (d := 1) (cuts := [(2, [([(0, cI 0 8), (1, cI 0 511), (2, cI 1 2), (3, cI 1 9)], [], [], [], [.inl 0, .inr (.inl 3, true), .inl 0])])]) (spl := []) (K := [0, 1, 2]) (N := 10) (sums := [S125]) aiX1_firstFree (abX1_firstFree w0) (by decide) (List.forall_mem_cons.mpr ⟨sum_up q125 0, fun _ h => absurd h List.not_mem_nil⟩) (by decide +kernel)
noncomputable def S127 : Sum1 := (23, [cI 0 511, cI 1 6], [], [], [], [([cI 0 511, cI 1 6], [], [], some (.inl (cI 1 1))), ([cI 0 511, cI 1 6], [], [], some (.inl (cI 0 0)))])
theorem q127 : sum_g w0 (pm_Rt pm_P 1) S127 := meth_okB (d := 0) (cuts := []) (spl := []) (K := [0, 1]) (N := 12) (sums := []) aiX1_isFree (abX1_isFree w0) (by decide) (fun _ h => absurd h List.not_mem_nil) (by decide +kernel)
noncomputable def S128 : Sum1 := (24, [cI 0 8, cI 0 511, cI 0 8], [], [], [], [([cI 2 8, cI 0 511, cI 0 8], [], [], some (.inl (cI 1 8))), ([cI 0 8, cI 0 511, cI 0 8], [], [], some (.inl (cI 0 0)))])
theorem q128 : sum_g w0 (pm_Rt pm_P 2) S128 := meth_okB (d := 1) (cuts := [(2, [([(0, cI 0 8), (1, cI 0 511), (2, cI 0 8), (3, cI 1 8)], [], [], [], [.inl 0, .inr (.inl 3, true), .inl 0])])]) (spl := []) (K := [0, 1, 2]) (N := 30) (sums := [S127, S122, S125]) aiX1_nearestFree (abX1_nearestFree w0) (by decide) (List.forall_mem_cons.mpr ⟨sum_up q127 0, List.forall_mem_cons.mpr ⟨sum_up q122 0, List.forall_mem_cons.mpr ⟨sum_up q125 0, fun _ h => absurd h List.not_mem_nil⟩⟩⟩) (by decide +kernel)
noncomputable def S129 : Sum1 := (21, [cI 0 8, cI 0 511, cI 1 9], [], [], [], [([cI 1 8, cI 0 511, cI 1 9], [], [], some (.inl (cI 1 8))), ([cI 0 8, cI 0 511, cI 1 9], [], [], some (.inl (cI 0 0)))])
theorem q129 : sum_g w0 (pm_Rt pm_P 2) S129 := meth_okB (d := 1) (cuts := [(2, [([(0, cI 0 8), (1, cI 0 511), (2, cI 1 9), (3, cI 1 9)], [], [], [], [.inl 0, .inr (.inl 3, true), .inl 0])])]) (spl := []) (K := [0, 1, 2]) (N := 10) (sums := [S125]) aiX1_firstFree (abX1_firstFree w0) (by decide) (List.forall_mem_cons.mpr ⟨sum_up q125 0, fun _ h => absurd h List.not_mem_nil⟩) (by decide +kernel)
noncomputable def S130 : Sum1 := (21, [cI 0 8, cI 0 511, cI 1 1], [], [], [], [([cI 1 8, cI 0 511, cI 1 1], [], [], some (.inl (cI 1 8))), ([cI 0 8, cI 0 511, cI 1 1], [], [], some (.inl (cI 0 0)))])
theorem q130 : sum_g w0 (pm_Rt pm_P 2) S130 := meth_okB (d := 1) (cuts := [(2, [([(0, cI 0 8), (1, cI 0 511), (2, cI 1 1), (3, cI 1 9)], [], [], [], [.inl 0, .inr (.inl 3, true), .inl 0])])]) (spl := []) (K := [0, 1, 2]) (N := 10) (sums := [S125]) aiX1_firstFree (abX1_firstFree w0) (by decide) (List.forall_mem_cons.mpr ⟨sum_up q125 0, fun _ h => absurd h List.not_mem_nil⟩) (by decide +kernel)
noncomputable def S131 : Sum1 := (25, [cI 0 3, cI 0 8, cI 0 511, cI 0 8], [], [], [], [([cI 0 3, cI 0 8, cI 0 511, cI 0 8], [], [], some (.inl (cI 0 0))), ([cI 0 3, cI 0 8, cI 0 511, cI 0 8], [], [], some (.inl (cI 0 8)))])
theorem q131 : sum_g w0 (pm_Rt pm_P 3) S131 := meth_okB (d := 2) (cuts := []) (spl := []) (K := [0, 1, 2, 3]) (N := 34) (sums := [S122, S121, S130, S126, S124, S128, S129]) aiX1_spotFor (abX1_spotFor w0) (by decide) (List.forall_mem_cons.mpr ⟨sum_up q122 1, List.forall_mem_cons.mpr ⟨sum_up q121 1, List.forall_mem_cons.mpr ⟨sum_up q130 0, List.forall_mem_cons.mpr ⟨sum_up q126 0, List.forall_mem_cons.mpr ⟨sum_up q124 0, List.forall_mem_cons.mpr ⟨sum_up q128 0, List.forall_mem_cons.mpr ⟨sum_up q129 0, fun _ h => absurd h List.not_mem_nil⟩⟩⟩⟩⟩⟩⟩) (by decide +kernel)
noncomputable def S132 : Sum1 := (160, [cI 1 8], [], [], [], [([cI 1 8], [], [], some (.inl (cI 1 128)))])
theorem q132 : sum_g w0 (pm_Rt pm_P 1) S132 := meth_okB (d := 0) (cuts := []) (spl := []) (K := [0]) (N := 7) (sums := []) aiX8_placeBit (abX8_placeBit w0) (by decide) (fun _ h => absurd h List.not_mem_nil) (by decide +kernel)
noncomputable def S133 : Sum1 := (9, [cI (-7) 8], [], [], [], [([cI (-7) 8], [], [], some (.inl (cI 0 8)))])
theorem q133 : sum_g w0 (pm_Rt pm_P 1) S133 := meth_okB (d := 0) (cuts := []) (spl := []) (K := [0]) (N := 7) (sums := []) aiJ9_abs_0f7a4 (abJ9_abs_0f7a4 w0) (by decide) (fun _ h => absurd h List.not_mem_nil) (by decide +kernel)
noncomputable def S134 : Sum1 := (19, [cR 62, cI 0 7, cI 0 8, cI 0 8], [], [], [(62, 1, 3), (63, 0, 7)], [([cR 62, cI 0 7, cI 0 8, cI 0 8], [], [], none)])
theorem q134 : sum_g w0 (pm_Rt pm_P 2) S134 := meth_okB (d := 1) (cuts := []) (spl := []) (K := [0, 1, 2, 3]) (N := 25) (sums := [S132, S133]) aiX1_come (abX1_come w0) (by decide) (List.forall_mem_cons.mpr ⟨sum_up q132 0, List.forall_mem_cons.mpr ⟨sum_up q133 0, fun _ h => absurd h List.not_mem_nil⟩⟩) (by decide +kernel)
noncomputable def S135 : Sum1 := (19, [cR 62, cI 0 7, cI 0 8, cI 0 0], [], [], [(62, 2, 2), (63, 0, 7)], [([cR 62, cI 0 7, cI 0 8, cI 0 0], [((62, 2), 1, 255)], [], none)])
theorem q135 : sum_g w0 (pm_Rt pm_P 1) S135 := meth_okB (d := 0) (cuts := []) (spl := []) (K := [0, 1, 2, 3]) (N := 18) (sums := []) aiX1_come (abX1_come w0) (by decide) (fun _ h => absurd h List.not_mem_nil) (by decide +kernel)
noncomputable def S136 : Sum1 := (20, [cR 62, cR 17, cI 0 8, cI 0 255, cI 0 8, cI 0 3], [], [], [(62, 1, 3), (63, 0, 7)], [([cR 62, cR 17, cI 0 8, cI 0 255, cI 0 8, cI 0 3], [], [], none)])
theorem q136 : sum_g w0 (pm_Rt pm_P 4) S136 := meth_okB (d := 3) (cuts := [(18, [([(0, cR 62), (1, cR 17), (2, cI 0 8), (3, cI 0 255), (4, cI 0 8), (5, cI 0 3), (6, cI 0 8)], [], [], [], [.inl 0, .inr (.inl 6, true), .inl 0])])]) (spl := []) (K := [0, 1, 2, 3, 4, 5]) (N := 31) (sums := [S135, S134, S131]) aiX1_fill (abX1_fill w0) (by decide) (List.forall_mem_cons.mpr ⟨sum_up q135 2, List.forall_mem_cons.mpr ⟨sum_up q134 1, List.forall_mem_cons.mpr ⟨sum_up q131 0, fun _ h => absurd h List.not_mem_nil⟩⟩⟩) (by decide +kernel)
noncomputable def S137 : Sum1 := (154, [cR 0], [], [], [(62, 1, 3), (63, 0, 7)], [([cR 0], [], [], none)])
theorem q137 : sum_g w0 (pm_Rt pm_P 5) S137 := meth_okB (d := 4) (cuts := []) (spl := []) (K := [0]) (N := 19) (sums := [S120, S136]) aiX8_parkAll (abX8_parkAll w0) (by decide) (List.forall_mem_cons.mpr ⟨sum_up q120 3, List.forall_mem_cons.mpr ⟨sum_up q136 0, fun _ h => absurd h List.not_mem_nil⟩⟩) (by decide +kernel)
noncomputable def S138 : Sum1 := (159, [cR 0, cI (-2147483648) 2147483647], [], [], [(62, 1, 3), (63, 0, 7)], [([cR 0, cI (-2147483648) 2147483647], [], [], some (.inl (cI (-2) 9)))])
theorem q138 : sum_g w0 (pm_Rt pm_P 6) S138 := meth_okB (d := 5) (cuts := []) (spl := []) (K := [0, 1]) (N := 19) (sums := [S137, S109]) aiX8_place (abX8_place w0) (by decide) (List.forall_mem_cons.mpr ⟨sum_up q137 0, List.forall_mem_cons.mpr ⟨sum_up q109 4, fun _ h => absurd h List.not_mem_nil⟩⟩) (by decide +kernel)
noncomputable def S139 : Sum1 := (265, [cI (-2147483648) 2147483647, cI 0 7], [], [], [], [([cI (-2147483648) 2147483647, cI 0 7], [], [], some (.inl (cI 1 1))), ([cI (-2147483648) 2147483647, cI 0 7], [], [], some (.inl (cI 0 0)))])
theorem q139 : sum_g w0 (pm_Rt pm_P 1) S139 := meth_okB (d := 0) (cuts := []) (spl := []) (K := [0, 1]) (N := 11) (sums := []) aiX9_isBit (abX9_isBit w0) (by decide) (fun _ h => absurd h List.not_mem_nil) (by decide +kernel)
noncomputable def S140 : Sum1 := (325, [cR 77], [], [], [], [([cR 77], [((84, 0), 0, 8)], [], some (.inr (84, 0)))])
theorem q140 : sum_g w0 (pm_Rt pm_P 1) S140 := meth_okB (d := 0) (cuts := []) (spl := []) (K := [0]) (N := 6) (sums := []) aiX9_places (abX9_places w0) (by decide) (fun _ h => absurd h List.not_mem_nil) (by decide +kernel)
noncomputable def S141 : Sum1 := (268, [cR 77, cI 0 8, cI 0 8], [], [], [], [([cR 77, cI 1 8, cI 1 8], [], [], some (.inl (cI 1 1))), ([cR 77, cI 0 8, cI 0 8], [], [], some (.inl (cI 0 0)))])
theorem q141 : sum_g w0 (pm_Rt pm_P 1) S141 := meth_okB (d := 0) (cuts := []) (spl := []) (K := [0, 1, 2]) (N := 16) (sums := []) aiX9_isFree (abX9_isFree w0) (by decide) (fun _ h => absurd h List.not_mem_nil) (by decide +kernel)
noncomputable def S142 : Sum1 := (268, [cR 77, cI (-1) 7, cI 0 8], [], [], [], [([cR 77, cI 1 7, cI 1 8], [], [], some (.inl (cI 1 1))), ([cR 77, cI (-1) 7, cI 0 8], [], [], some (.inl (cI 0 0)))])
theorem q142 : sum_g w0 (pm_Rt pm_P 1) S142 := meth_okB (d := 0) (cuts := []) (spl := []) (K := [0, 1, 2]) (N := 16) (sums := []) aiX9_isFree (abX9_isFree w0) (by decide) (fun _ h => absurd h List.not_mem_nil) (by decide +kernel)
noncomputable def S143 : Sum1 := (268, [cR 77, cI 1 8, cI 1 8], [], [], [], [([cR 77, cI 1 8, cI 1 8], [], [], some (.inl (cI 1 1))), ([cR 77, cI 1 8, cI 1 8], [], [], some (.inl (cI 0 0)))])
theorem q143 : sum_g w0 (pm_Rt pm_P 1) S143 := meth_okB (d := 0) (cuts := []) (spl := []) (K := [0, 1, 2]) (N := 16) (sums := []) aiX9_isFree (abX9_isFree w0) (by decide) (fun _ h => absurd h List.not_mem_nil) (by decide +kernel)
noncomputable def S144 : Sum1 := (205, [cR 77, cI 0 8, cI 0 8], [], [], [], [([cR 77, cI 0 8, cI 0 8], [], [], some (.inl (cI (-1) 8)))])
theorem q144 : sum_g w0 (pm_Rt pm_P 2) S144 := meth_okB (d := 1) (cuts := [(4, [([(0, cR 77), (1, cI 0 8), (2, cI 0 8), (3, cI 1 9)], [], [], [], [.inl 0, .inr (.inl 3, true), .inl 0])])]) (spl := []) (K := [0, 1, 2]) (N := 11) (sums := [S143]) aiX9_above0 (abX9_above0 w0) (by decide) (List.forall_mem_cons.mpr ⟨sum_up q143 0, fun _ h => absurd h List.not_mem_nil⟩) (by decide +kernel)
noncomputable def S145 : Sum1 := (205, [cR 77, cI 0 0, cI 0 8], [], [], [], [([cR 77, cI 0 0, cI 0 8], [], [], some (.inl (cI (-1) 8)))])
theorem q145 : sum_g w0 (pm_Rt pm_P 2) S145 := meth_okB (d := 1) (cuts := [(4, [([(0, cR 77), (1, cI 0 0), (2, cI 0 8), (3, cI 1 9)], [], [], [], [.inl 0, .inr (.inl 3, true), .inl 0])])]) (spl := []) (K := [0, 1, 2]) (N := 11) (sums := [S143]) aiX9_above0 (abX9_above0 w0) (by decide) (List.forall_mem_cons.mpr ⟨sum_up q143 0, fun _ h => absurd h List.not_mem_nil⟩) (by decide +kernel)
noncomputable def S146 : Sum1 := (268, [cR 77, cI 1 15, cI 2 8], [], [], [], [([cR 77, cI 1 8, cI 2 8], [], [], some (.inl (cI 1 1))), ([cR 77, cI 1 15, cI 2 8], [], [], some (.inl (cI 0 0)))])
theorem q146 : sum_g w0 (pm_Rt pm_P 1) S146 := meth_okB (d := 0) (cuts := []) (spl := []) (K := [0, 1, 2]) (N := 16) (sums := []) aiX9_isFree (abX9_isFree w0) (by decide) (fun _ h => absurd h List.not_mem_nil) (by decide +kernel)
noncomputable def S147 : Sum1 := (268, [cR 77, cI (-7) 7, cI 2 8], [], [], [], [([cR 77, cI 1 7, cI 2 8], [], [], some (.inl (cI 1 1))), ([cR 77, cI (-7) 7, cI 2 8], [], [], some (.inl (cI 0 0)))])
theorem q147 : sum_g w0 (pm_Rt pm_P 1) S147 := meth_okB (d := 0) (cuts := []) (spl := []) (K := [0, 1, 2]) (N := 16) (sums := []) aiX9_isFree (abX9_isFree w0) (by decide) (fun _ h => absurd h List.not_mem_nil) (by decide +kernel)
noncomputable def S148 : Sum1 := (249, [cR 77, cI 0 8, cI 0 3], [], [], [], [([cR 77, cI 0 8, cI 0 3], [], [], some (.inl (cI (-1) 8)))])
theorem q148 : sum_g w0 (pm_Rt pm_P 3) S148 := meth_okB (d := 2) (cuts := [(44, [([(0, cR 77), (1, cI 0 8), (2, cI 2 2), (3, cI 0 8), (4, cI 1 8)], [], [], [], [.inl 0, .inr (.inl 4, true), .inl 0])])]) (spl := []) (K := [0, 1, 2]) (N := 35) (sums := [S140, S145, S141, S142, S144, S146, S147]) aiX9_findsBy (abX9_findsBy w0) (by decide) (List.forall_mem_cons.mpr ⟨sum_up q140 1, List.forall_mem_cons.mpr ⟨sum_up q145 0, List.forall_mem_cons.mpr ⟨sum_up q141 1, List.forall_mem_cons.mpr ⟨sum_up q142 1, List.forall_mem_cons.mpr ⟨sum_up q144 0, List.forall_mem_cons.mpr ⟨sum_up q146 1, List.forall_mem_cons.mpr ⟨sum_up q147 1, fun _ h => absurd h List.not_mem_nil⟩⟩⟩⟩⟩⟩⟩) (by decide +kernel)
noncomputable def S149 : Sum1 := (320, [cR 77, cI 0 3], [], [], [(77, 27, 27), (90, 0, 9), (91, 0, 7)], [([cR 77, cI 0 3], [], [], none)])
theorem q149 : sum_g w0 (pm_Rt pm_P 4) S149 := meth_okB (d := 3) (cuts := [(7, [([(0, cR 77), (1, cI 0 3), (2, cI 0 10)], [], [((77, 27), 0, 0)], [], [.inl 1, .inr (.inl 2, true), .inl 0])]), (28, [([(0, cR 77), (1, cI 0 3), (2, cI 0 8)], [], [((77, 27), 0, 255)], [], [.inl 0, .inr (.inl 2, true), .inl 0])])]) (spl := []) (K := [0, 1]) (N := 42) (sums := [S112, S148, S139]) aiX9_parks (abX9_parks w0) (by decide) (List.forall_mem_cons.mpr ⟨sum_up q112 2, List.forall_mem_cons.mpr ⟨sum_up q148 0, List.forall_mem_cons.mpr ⟨sum_up q139 2, fun _ h => absurd h List.not_mem_nil⟩⟩⟩) (by decide +kernel)
noncomputable def S150 : Sum1 := (296, [cR 77], [], [125], [(77, 22, 23), (77, 27, 27), (89, 0, 7), (90, 0, 9), (91, 0, 7)], [([cR 77], [((77, 23), 0, 255)], [], none)])
theorem q150 : sum_g w0 (pm_Rt pm_P 5) S150 := meth_okB (d := 4) (cuts := []) (spl := []) (K := [0]) (N := 8) (sums := [S118, S149]) aiX9_laysNow (abX9_laysNow w0) (by decide) (List.forall_mem_cons.mpr ⟨sum_up q118 2, List.forall_mem_cons.mpr ⟨sum_up q149 0, fun _ h => absurd h List.not_mem_nil⟩⟩) (by decide +kernel)
noncomputable def S151 : Sum1 := (324, [cR 77, cI (-2147483648) 2147483647], [], [125], [(77, 0, 0), (77, 22, 23), (77, 27, 27), (89, 0, 7), (90, 0, 9), (91, 0, 7)], [([cR 77, cI (-2147483648) 2147483647], [], [], some (.inl (cI (-2) 9)))])
theorem q151 : sum_g w0 (pm_Rt pm_P 6) S151 := meth_okB (d := 5) (cuts := []) (spl := []) (K := [0, 1]) (N := 16) (sums := [S150, S114]) aiX9_place (abX9_place w0) (by decide) (List.forall_mem_cons.mpr ⟨sum_up q150 0, List.forall_mem_cons.mpr ⟨sum_up q114 3, fun _ h => absurd h List.not_mem_nil⟩⟩) (by decide +kernel)
noncomputable def S152 : Sum1 := (9, [cI (-8) 9], [], [], [], [([cI (-8) 9], [], [], some (.inl (cI 0 9)))])
theorem q152 : sum_g w0 (pm_Rt pm_P 1) S152 := meth_okB (d := 0) (cuts := []) (spl := []) (K := [0]) (N := 7) (sums := []) aiJ9_abs_0f7a4 (abJ9_abs_0f7a4 w0) (by decide) (fun _ h => absurd h List.not_mem_nil) (by decide +kernel)
noncomputable def S153 : Sum1 := (184, [cR 0, cI 0 7], [], [], [], [([cR 0, cI 0 7], [], [], some (.inl (cI 0 9)))])
theorem q153 : sum_g w0 (pm_Rt pm_P 2) S153 := meth_okB (d := 1) (cuts := []) (spl := []) (K := [0, 1]) (N := 14) (sums := [S152]) aiX8_stepsInLot (abX8_stepsInLot w0) (by decide) (List.forall_mem_cons.mpr ⟨sum_up q152 0, fun _ h => absurd h List.not_mem_nil⟩) (by decide +kernel)
noncomputable def S154 : Sum1 := (183, [cR 0, cI (-2147483648) 2147483647], [], [], [(62, 1, 3), (63, 0, 7)], [([cR 0, cI (-2147483648) 2147483647], [], [], some (.inl (cI (-2) 9)))])
theorem q154 : sum_g w0 (pm_Rt pm_P 6) S154 := meth_okB (d := 5) (cuts := []) (spl := []) (K := [0, 1]) (N := 17) (sums := [S137, S153, S109]) aiX8_steps (abX8_steps w0) (by decide) (List.forall_mem_cons.mpr ⟨sum_up q137 0, List.forall_mem_cons.mpr ⟨sum_up q153 3, List.forall_mem_cons.mpr ⟨sum_up q109 4, fun _ h => absurd h List.not_mem_nil⟩⟩⟩) (by decide +kernel)
noncomputable def S155 : Sum1 := (245, [cI (-1) 9, cI 0 8], [], [], [], [([cI (-1) 9, cI 0 8], [], [], some (.inl (cI 0 9)))])
theorem q155 : sum_g w0 (pm_Rt pm_P 1) S155 := meth_okB (d := 0) (cuts := []) (spl := []) (K := [0, 1]) (N := 9) (sums := []) aiX9_far0 (abX9_far0 w0) (by decide) (fun _ h => absurd h List.not_mem_nil) (by decide +kernel)
noncomputable def S156 : Sum1 := (353, [cR 77, cI 0 7], [], [], [], [([cR 77, cI 0 7], [], [], some (.inl (cI 0 9)))])
theorem q156 : sum_g w0 (pm_Rt pm_P 2) S156 := meth_okB (d := 1) (cuts := []) (spl := []) (K := [0, 1]) (N := 11) (sums := [S155]) aiX9_stepsOf (abX9_stepsOf w0) (by decide) (List.forall_mem_cons.mpr ⟨sum_up q155 0, fun _ h => absurd h List.not_mem_nil⟩) (by decide +kernel)
noncomputable def S157 : Sum1 := (352, [cR 77, cI (-2147483648) 2147483647], [], [125], [(77, 0, 0), (77, 22, 23), (77, 27, 27), (89, 0, 7), (90, 0, 9), (91, 0, 7)], [([cR 77, cI (-2147483648) 2147483647], [], [], some (.inl (cI (-2) 9)))])
theorem q157 : sum_g w0 (pm_Rt pm_P 6) S157 := meth_okB (d := 5) (cuts := []) (spl := []) (K := [0, 1]) (N := 21) (sums := [S150, S156, S114]) aiX9_steps (abX9_steps w0) (by decide) (List.forall_mem_cons.mpr ⟨sum_up q150 0, List.forall_mem_cons.mpr ⟨sum_up q156 3, List.forall_mem_cons.mpr ⟨sum_up q114 3, fun _ h => absurd h List.not_mem_nil⟩⟩⟩) (by decide +kernel)
noncomputable def S158 : Sum1 := (118, [cR 0], [], [], [], [([cR 0], [((15, 0), 1, 8)], [], some (.inl (cI 1 1))), ([cR 0], [((15, 0), 0, 0)], [], some (.inl (cI 0 0)))])
theorem q158 : sum_g w0 (pm_Rt pm_P 1) S158 := meth_okB (d := 0) (cuts := []) (spl := []) (K := [0]) (N := 8) (sums := []) aiX8_hasStreet (abX8_hasStreet w0) (by decide) (fun _ h => absurd h List.not_mem_nil) (by decide +kernel)
noncomputable def S159 : Sum1 := (143, [cR 0], [], [], [(62, 1, 3), (63, 0, 7)], [([cR 0], [], [], some (.inl (cI (-2) 255)))])
theorem q159 : sum_g w0 (pm_Rt pm_P 6) S159 := meth_okB (d := 5) (cuts := []) (spl := []) (K := [0]) (N := 10) (sums := [S158, S137]) aiX8_lost (abX8_lost w0) (by decide) (List.forall_mem_cons.mpr ⟨sum_up q158 4, List.forall_mem_cons.mpr ⟨sum_up q137 0, fun _ h => absurd h List.not_mem_nil⟩⟩) (by decide +kernel)
noncomputable def S160 : Sum1 := (281, [cR 77], [], [], [], [([cR 77], [((83, 0), 1, 2147483647)], [], some (.inl (cI 1 1))), ([cR 77], [((83, 0), (-2147483648), 0)], [], some (.inl (cI 0 0)))])
theorem q160 : sum_g w0 (pm_Rt pm_P 1) S160 := meth_okB (d := 0) (cuts := []) (spl := []) (K := [0]) (N := 9) (sums := []) aiX9_isStreet (abX9_isStreet w0) (by decide) (fun _ h => absurd h List.not_mem_nil) (by decide +kernel)
noncomputable def S161 : Sum1 := (305, [cR 77], [], [125], [(77, 0, 0), (77, 22, 23), (77, 27, 27), (89, 0, 7), (90, 0, 9), (91, 0, 7)], [([cR 77], [], [], some (.inl (cI (-2) 255)))])
theorem q161 : sum_g w0 (pm_Rt pm_P 6) S161 := meth_okB (d := 5) (cuts := []) (spl := []) (K := [0]) (N := 12) (sums := [S160, S150]) aiX9_lost (abX9_lost w0) (by decide) (List.forall_mem_cons.mpr ⟨sum_up q160 4, List.forall_mem_cons.mpr ⟨sum_up q150 0, fun _ h => absurd h List.not_mem_nil⟩⟩) (by decide +kernel)
noncomputable def S162 : Sum1 := (110, [cR 0], [], [], [(62, 1, 3), (63, 0, 7)], [([cR 0], [], [], some (.inl (cI (-2) 255)))])
theorem q162 : sum_g w0 (pm_Rt pm_P 6) S162 := meth_okB (d := 5) (cuts := []) (spl := []) (K := [0]) (N := 20) (sums := [S158, S137]) aiX8_free (abX8_free w0) (by decide) (List.forall_mem_cons.mpr ⟨sum_up q158 4, List.forall_mem_cons.mpr ⟨sum_up q137 0, fun _ h => absurd h List.not_mem_nil⟩⟩) (by decide +kernel)
noncomputable def S163 : Sum1 := (253, [cR 77], [], [125], [(77, 0, 0), (77, 22, 23), (77, 27, 27), (89, 0, 7), (90, 0, 9), (91, 0, 7)], [([cR 77], [], [], some (.inl (cI (-2) 255)))])
theorem q163 : sum_g w0 (pm_Rt pm_P 6) S163 := meth_okB (d := 5) (cuts := [(23, [([(0, cR 77), (1, cI 0 255), (2, cI 1 9)], [], [((77, 0), 0, 0), ((77, 23), 0, 255), ((83, 0), 1, 2147483647)], [125], [.inl 0, .inr (.inl 2, true), .inl 0])])]) (spl := []) (K := [0]) (N := 22) (sums := [S160, S150, S140]) aiX9_free (abX9_free w0) (by decide) (List.forall_mem_cons.mpr ⟨sum_up q160 4, List.forall_mem_cons.mpr ⟨sum_up q150 0, List.forall_mem_cons.mpr ⟨sum_up q140 4, fun _ h => absurd h List.not_mem_nil⟩⟩⟩) (by decide +kernel)
noncomputable def S164 : Sum1 := (117, [cR 0, cI (-2147483648) 2147483647], [], [], [], [([cR 0, cI 1 8], [((15, 0), 1, 8)], [], some (.inl (cI 1 1))), ([cR 0, cI (-2147483648) 2147483647], [], [], some (.inl (cI 0 0)))])
theorem q164 : sum_g w0 (pm_Rt pm_P 1) S164 := meth_okB (d := 0) (cuts := []) (spl := []) (K := [0, 1]) (N := 12) (sums := []) aiX8_hasPlace (abX8_hasPlace w0) (by decide) (fun _ h => absurd h List.not_mem_nil) (by decide +kernel)
noncomputable def S165 : Sum1 := (119, [cR 0, cI (-2147483648) 2147483647], [], [], [(62, 1, 3), (63, 0, 7)], [([cR 0, cI (-2147483648) 2147483647], [], [], some (.inl (cI (-2) 7)))])
theorem q165 : sum_g w0 (pm_Rt pm_P 6) S165 := meth_okB (d := 5) (cuts := [(17, [([(0, cR 0), (1, cI 1 8), (2, cI 0 8)], [], [((15, 0), 1, 8)], [], [.inl 0, .inr (.inl 2, true), .inl 0])])]) (spl := []) (K := [0, 1]) (N := 15) (sums := [S137, S164]) aiX8_holder (abX8_holder w0) (by decide) (List.forall_mem_cons.mpr ⟨sum_up q137 0, List.forall_mem_cons.mpr ⟨sum_up q164 4, fun _ h => absurd h List.not_mem_nil⟩⟩) (by decide +kernel)
noncomputable def S166 : Sum1 := (261, [cL (-2147483648) 2147483647, cL 1 1, cL 0 8], [], [], [], [([cL (-2147483648) 2147483647, cL 1 1, cL 0 8], [], [], some (.inl (cI 0 0))), ([cL 1 8, cL 1 1, cL 1 8], [], [], some (.inl (cI 1 1)))])
theorem q166 : sum_g w0 (pm_Rt pm_P 1) S166 := meth_okB (d := 0) (cuts := []) (spl := []) (K := [0, 2, 4]) (N := 12) (sums := []) aiX9_in (abX9_in w0) (by decide) (fun _ h => absurd h List.not_mem_nil) (by decide +kernel)
noncomputable def S167 : Sum1 := (276, [cR 77, cI (-2147483648) 2147483647], [], [], [], [([cR 77, cI (-2147483648) 2147483647], [], [], some (.inl (cI 0 0))), ([cR 77, cI 1 8], [((83, 0), 1, 2147483647), ((84, 0), 1, 8)], [], some (.inl (cI 1 1)))])
theorem q167 : sum_g w0 (pm_Rt pm_P 2) S167 := meth_okB (d := 1) (cuts := []) (spl := []) (K := [0, 1]) (N := 15) (sums := [S160, S140, S166]) aiX9_isPlace (abX9_isPlace w0) (by decide) (List.forall_mem_cons.mpr ⟨sum_up q160 0, List.forall_mem_cons.mpr ⟨sum_up q140 0, List.forall_mem_cons.mpr ⟨sum_up q166 0, fun _ h => absurd h List.not_mem_nil⟩⟩⟩) (by decide +kernel)
noncomputable def S168 : Sum1 := (258, [cR 77, cI (-2147483648) 2147483647], [], [125], [(77, 0, 0), (77, 22, 23), (77, 27, 27), (89, 0, 7), (90, 0, 9), (91, 0, 7)], [([cR 77, cI (-2147483648) 2147483647], [], [], some (.inl (cI (-2) 7)))])
theorem q168 : sum_g w0 (pm_Rt pm_P 6) S168 := meth_okB (d := 5) (cuts := []) (spl := []) (K := [0, 1]) (N := 15) (sums := [S150, S167]) aiX9_holder (abX9_holder w0) (by decide) (List.forall_mem_cons.mpr ⟨sum_up q150 0, List.forall_mem_cons.mpr ⟨sum_up q167 3, fun _ h => absurd h List.not_mem_nil⟩⟩) (by decide +kernel)
noncomputable def S169 : Sum1 := (145, [cR 0], [], [], [(62, 1, 3), (63, 0, 7)], [([cR 0], [], [], some (.inl (cI (-2) 255)))])
theorem q169 : sum_g w0 (pm_Rt pm_P 6) S169 := meth_okB (d := 5) (cuts := [(18, [([(0, cR 0), (1, cI 0 255), (2, cI 0 8)], [], [((15, 0), 1, 8)], [], [.inl 0, .inr (.inl 2, true), .inl 0])])]) (spl := []) (K := [0]) (N := 25) (sums := [S158, S137]) aiX8_lucky (abX8_lucky w0) (by decide) (List.forall_mem_cons.mpr ⟨sum_up q158 4, List.forall_mem_cons.mpr ⟨sum_up q137 0, fun _ h => absurd h List.not_mem_nil⟩⟩) (by decide +kernel)
noncomputable def S170 : Sum1 := (307, [cR 77], [], [125], [(77, 0, 0), (77, 22, 23), (77, 27, 27), (89, 0, 7), (90, 0, 9), (91, 0, 7)], [([cR 77], [], [], some (.inl (cI (-2) 255)))])
theorem q170 : sum_g w0 (pm_Rt pm_P 6) S170 := meth_okB (d := 5) (cuts := [(23, [([(0, cR 77), (1, cI 0 255), (2, cI 0 8)], [], [((77, 0), 0, 0), ((77, 23), 0, 255), ((83, 0), 1, 2147483647)], [125], [.inl 0, .inr (.inl 2, true), .inl 0])])]) (spl := []) (K := [0]) (N := 23) (sums := [S160, S150, S112]) aiX9_lucky (abX9_lucky w0) (by decide) (List.forall_mem_cons.mpr ⟨sum_up q160 4, List.forall_mem_cons.mpr ⟨sum_up q150 0, List.forall_mem_cons.mpr ⟨sum_up q112 4, fun _ h => absurd h List.not_mem_nil⟩⟩⟩) (by decide +kernel)
noncomputable def S171 : Sum1 := (186, [cR 0], [], [], [(62, 1, 3), (63, 0, 7)], [([cR 0], [], [], some (.inl (cI (-2147483648) 2147483647)))])
theorem q171 : sum_g w0 (pm_Rt pm_P 6) S171 := meth_okB (d := 5) (cuts := []) (spl := []) (K := [0]) (N := 10) (sums := [S158, S137]) aiX8_sum (abX8_sum w0) (by decide) (List.forall_mem_cons.mpr ⟨sum_up q158 4, List.forall_mem_cons.mpr ⟨sum_up q137 0, fun _ h => absurd h List.not_mem_nil⟩⟩) (by decide +kernel)
noncomputable def S172 : Sum1 := (356, [cR 77], [], [], [], [([cR 77], [], [], some (.inl (cI (-2147483648) 2147483647)))])
theorem q172 : sum_g w0 (pm_Rt pm_P 3) S172 := meth_okB (d := 2) (cuts := [(4, [([(0, cR 77), (1, cI (-2147483648) 2147483647), (2, cI 0 8)], [], [], [], [.inl 0, .inr (.inl 2, true), .inl 0])])]) (spl := []) (K := [0]) (N := 19) (sums := [S112, S156]) aiX9_sumNow (abX9_sumNow w0) (by decide) (List.forall_mem_cons.mpr ⟨sum_up q112 1, List.forall_mem_cons.mpr ⟨sum_up q156 0, fun _ h => absurd h List.not_mem_nil⟩⟩) (by decide +kernel)
noncomputable def S173 : Sum1 := (355, [cR 77], [], [125], [(77, 0, 0), (77, 22, 23), (77, 27, 27), (89, 0, 7), (90, 0, 9), (91, 0, 7)], [([cR 77], [], [], some (.inl (cI (-2147483648) 2147483647)))])
theorem q173 : sum_g w0 (pm_Rt pm_P 6) S173 := meth_okB (d := 5) (cuts := []) (spl := []) (K := [0]) (N := 12) (sums := [S160, S150, S172]) aiX9_sum (abX9_sum w0) (by decide) (List.forall_mem_cons.mpr ⟨sum_up q160 4, List.forall_mem_cons.mpr ⟨sum_up q150 0, List.forall_mem_cons.mpr ⟨sum_up q172 2, fun _ h => absurd h List.not_mem_nil⟩⟩⟩) (by decide +kernel)
noncomputable def S174 : Sum1 := (201, [cR 0], [], [], [(62, 1, 3), (63, 0, 7)], [([cR 0], [], [], some (.inl (cI (-2) 7)))])
theorem q174 : sum_g w0 (pm_Rt pm_P 6) S174 := meth_okB (d := 5) (cuts := [(20, [([(0, cR 0), (1, cI (-1) 7), (2, cI (-1) 9), (3, cI 0 8)], [], [((15, 0), 1, 8)], [], [.inl 0, .inr (.inl 3, true), .inl 0])])]) (spl := []) (K := [0]) (N := 25) (sums := [S158, S137, S153]) aiX8_worst (abX8_worst w0) (by decide) (List.forall_mem_cons.mpr ⟨sum_up q158 4, List.forall_mem_cons.mpr ⟨sum_up q137 0, List.forall_mem_cons.mpr ⟨sum_up q153 3, fun _ h => absurd h List.not_mem_nil⟩⟩⟩) (by decide +kernel)
noncomputable def S175 : Sum1 := (376, [cR 77], [], [125], [(77, 0, 0), (77, 22, 23), (77, 27, 27), (89, 0, 7), (90, 0, 9), (91, 0, 7)], [([cR 77], [], [], some (.inl (cI (-2) 7)))])
theorem q175 : sum_g w0 (pm_Rt pm_P 6) S175 := meth_okB (d := 5) (cuts := [(23, [([(0, cR 77), (1, cI (-1) 7), (2, cI 0 8)], [], [((77, 0), 0, 0), ((77, 23), 0, 255), ((83, 0), 1, 2147483647)], [125], [.inl 0, .inr (.inl 2, true), .inl 0])])]) (spl := []) (K := [0]) (N := 25) (sums := [S160, S150, S112, S156]) aiX9_worst (abX9_worst w0) (by decide) (List.forall_mem_cons.mpr ⟨sum_up q160 4, List.forall_mem_cons.mpr ⟨sum_up q150 0, List.forall_mem_cons.mpr ⟨sum_up q112 4, List.forall_mem_cons.mpr ⟨sum_up q156 3, fun _ h => absurd h List.not_mem_nil⟩⟩⟩⟩) (by decide +kernel)
noncomputable def S176 : Sum1 := (7, [cI 0 511], [], [], [], [([cI 0 511], [], [], some (.inl (cI 2 9))), ([cI 0 511], [], [], some (.inl (cI 1 1))), ([cI 0 511], [], [], some (.inl (cI 0 0)))])
theorem q176 : sum_g w0 (pm_Rt pm_P 1) S176 := bc_sum (hi := 511) (k := 9) (by decide) (by decide +kernel)
noncomputable def S177 : Sum1 := (174, [cR 0], [], [], [(62, 1, 3), (63, 0, 7)], [([cR 0], [], [], some (.inl (cI (-2) 9))), ([cR 0], [((15, 0), 1, 8)], [], some (.inl (cI 0 0))), ([cR 0], [((15, 0), 1, 8)], [], some (.inl (cI 1 1)))])
theorem q177 : sum_g w0 (pm_Rt pm_P 6) S177 := meth_okB (d := 5) (cuts := []) (spl := []) (K := [0]) (N := 19) (sums := [S158, S137, S176]) aiX8_runs (abX8_runs w0) (by decide) (List.forall_mem_cons.mpr ⟨sum_up q158 4, List.forall_mem_cons.mpr ⟨sum_up q137 0, List.forall_mem_cons.mpr ⟨sum_up q176 4, fun _ h => absurd h List.not_mem_nil⟩⟩⟩) (by decide +kernel)
noncomputable def S178 : Sum1 := (341, [cR 77], [], [125], [(77, 0, 0), (77, 22, 23), (77, 27, 27), (89, 0, 7), (90, 0, 9), (91, 0, 7)], [([cR 77], [], [], some (.inl (cI (-2147483648) 2147483647)))])
theorem q178 : sum_g w0 (pm_Rt pm_P 6) S178 := meth_okB (d := 5) (cuts := [(23, [([(0, cR 77), (1, cI (-2147483648) 2147483647), (2, cI 1 9)], [], [((77, 0), 0, 0), ((77, 23), 0, 255), ((83, 0), 1, 2147483647)], [125], [.inl 0, .inr (.inl 2, true), .inl 0])])]) (spl := []) (K := [0]) (N := 29) (sums := [S160, S150, S140]) aiX9_runs (abX9_runs w0) (by decide) (List.forall_mem_cons.mpr ⟨sum_up q160 4, List.forall_mem_cons.mpr ⟨sum_up q150 0, List.forall_mem_cons.mpr ⟨sum_up q140 4, fun _ h => absurd h List.not_mem_nil⟩⟩⟩) (by decide +kernel)
noncomputable def S179 : Sum1 := (200, [cR 0, cI 1 8], [], [], [], [([cR 0, cI 1 8], [], [], some (.inl (cI (-2147483648) 2147483647)))])
theorem q179 : sum_g w0 (pm_Rt pm_P 1) S179 := meth_okB (d := 0) (cuts := [(4, [([(0, cR 0), (1, cI 1 8), (2, cI (-2147483648) 2147483647), (3, cI 0 8)], [], [], [], [.inl 0, .inr (.inl 3, true), .inl 0])])]) (spl := []) (K := [0, 1]) (N := 16) (sums := []) aiX8_wishesUpTo (abX8_wishesUpTo w0) (by decide) (fun _ h => absurd h List.not_mem_nil) (by decide +kernel)
end
section
/-! what is known of the methods, checked (written by emit.py) -/
noncomputable def S180 : Sum1 := (182, [cR 0, cI (-2147483648) 2147483647], [], [], [], [([cR 0, cI (-2147483648) 2147483647], [], [], some (.inl (cI (-2) 8)))])
theorem q180 : sum_g w0 (pm_Rt pm_P 2) S180 := meth_okB (d := 1) (cuts := [(16, [([(0, cR 0), (1, cI 0 2147483647), (2, cI 1 9)], [], [((15, 0), 1, 8)], [], [.inl 0, .inr (.inl 2, true), .inl 0])])]) (spl := []) (K := [0, 1]) (N := 13) (sums := [S158, S179]) aiX8_sorted (abX8_sorted w0) (by decide) (List.forall_mem_cons.mpr ⟨sum_up q158 0, List.forall_mem_cons.mpr ⟨sum_up q179 0, fun _ h => absurd h List.not_mem_nil⟩⟩) (by decide +kernel)
noncomputable def S181 : Sum1 := (369, [cR 77, cI 1 1], [((84, 3), 8, 8)], [], [], [([cR 77, cI 1 1], [], [], some (.inl (cI 0 8)))])
theorem q181 : sum_g w0 (pm_Rt pm_P 2) S181 := wqA (by decide) (by decide)
noncomputable def S182 : Sum1 := (369, [cR 77, cI 1 1], [((84, 3), 7, 7)], [], [], [([cR 77, cI 1 1], [], [], some (.inl (cI 0 7)))])
theorem q182 : sum_g w0 (pm_Rt pm_P 2) S182 := wqA (by decide) (by decide)
noncomputable def S183 : Sum1 := (369, [cR 77, cI 1 1], [((84, 3), 6, 6)], [], [], [([cR 77, cI 1 1], [], [], some (.inl (cI 0 6)))])
theorem q183 : sum_g w0 (pm_Rt pm_P 2) S183 := wqA (by decide) (by decide)
noncomputable def S184 : Sum1 := (369, [cR 77, cI 1 1], [((84, 3), 5, 5)], [], [], [([cR 77, cI 1 1], [], [], some (.inl (cI 0 5)))])
theorem q184 : sum_g w0 (pm_Rt pm_P 2) S184 := wqA (by decide) (by decide)
noncomputable def S185 : Sum1 := (369, [cR 77, cI 1 1], [((84, 3), 4, 4)], [], [], [([cR 77, cI 1 1], [], [], some (.inl (cI 0 4)))])
theorem q185 : sum_g w0 (pm_Rt pm_P 2) S185 := wqA (by decide) (by decide)
noncomputable def S186 : Sum1 := (369, [cR 77, cI 1 1], [((84, 3), 3, 3)], [], [], [([cR 77, cI 1 1], [], [], some (.inl (cI 0 3)))])
theorem q186 : sum_g w0 (pm_Rt pm_P 2) S186 := wqA (by decide) (by decide)
noncomputable def S187 : Sum1 := (369, [cR 77, cI 1 1], [((84, 3), 2, 2)], [], [], [([cR 77, cI 1 1], [], [], some (.inl (cI 0 2)))])
theorem q187 : sum_g w0 (pm_Rt pm_P 2) S187 := wqA (by decide) (by decide)
noncomputable def S188 : Sum1 := (369, [cR 77, cI 1 1], [((84, 3), 1, 1)], [], [], [([cR 77, cI 1 1], [], [], some (.inl (cI 0 1)))])
theorem q188 : sum_g w0 (pm_Rt pm_P 2) S188 := wqA (by decide) (by decide)
noncomputable def S189 : Sum1 := (369, [cR 77, cI 2 2], [((84, 3), 8, 8)], [], [], [([cR 77, cI 2 2], [], [], some (.inl (cI 0 8)))])
theorem q189 : sum_g w0 (pm_Rt pm_P 2) S189 := wqA (by decide) (by decide)
noncomputable def S190 : Sum1 := (369, [cR 77, cI 2 2], [((84, 3), 7, 7)], [], [], [([cR 77, cI 2 2], [], [], some (.inl (cI 0 7)))])
theorem q190 : sum_g w0 (pm_Rt pm_P 2) S190 := wqA (by decide) (by decide)
noncomputable def S191 : Sum1 := (369, [cR 77, cI 2 2], [((84, 3), 6, 6)], [], [], [([cR 77, cI 2 2], [], [], some (.inl (cI 0 6)))])
theorem q191 : sum_g w0 (pm_Rt pm_P 2) S191 := wqA (by decide) (by decide)
noncomputable def S192 : Sum1 := (369, [cR 77, cI 2 2], [((84, 3), 5, 5)], [], [], [([cR 77, cI 2 2], [], [], some (.inl (cI 0 5)))])
theorem q192 : sum_g w0 (pm_Rt pm_P 2) S192 := wqA (by decide) (by decide)
noncomputable def S193 : Sum1 := (369, [cR 77, cI 2 2], [((84, 3), 4, 4)], [], [], [([cR 77, cI 2 2], [], [], some (.inl (cI 0 4)))])
theorem q193 : sum_g w0 (pm_Rt pm_P 2) S193 := wqA (by decide) (by decide)
noncomputable def S194 : Sum1 := (369, [cR 77, cI 2 2], [((84, 3), 3, 3)], [], [], [([cR 77, cI 2 2], [], [], some (.inl (cI 0 3)))])
theorem q194 : sum_g w0 (pm_Rt pm_P 2) S194 := wqA (by decide) (by decide)
noncomputable def S195 : Sum1 := (369, [cR 77, cI 2 2], [((84, 3), 2, 2)], [], [], [([cR 77, cI 2 2], [], [], some (.inl (cI 0 2)))])
theorem q195 : sum_g w0 (pm_Rt pm_P 2) S195 := wqA (by decide) (by decide)
noncomputable def S196 : Sum1 := (369, [cR 77, cI 2 2], [((84, 3), 1, 1)], [], [], [([cR 77, cI 2 2], [], [], some (.inl (cI 0 1)))])
theorem q196 : sum_g w0 (pm_Rt pm_P 2) S196 := wqA (by decide) (by decide)
noncomputable def S197 : Sum1 := (369, [cR 77, cI 3 3], [((84, 3), 8, 8)], [], [], [([cR 77, cI 3 3], [], [], some (.inl (cI 0 8)))])
theorem q197 : sum_g w0 (pm_Rt pm_P 2) S197 := wqA (by decide) (by decide)
noncomputable def S198 : Sum1 := (369, [cR 77, cI 3 3], [((84, 3), 7, 7)], [], [], [([cR 77, cI 3 3], [], [], some (.inl (cI 0 7)))])
theorem q198 : sum_g w0 (pm_Rt pm_P 2) S198 := wqA (by decide) (by decide)
noncomputable def S199 : Sum1 := (369, [cR 77, cI 3 3], [((84, 3), 6, 6)], [], [], [([cR 77, cI 3 3], [], [], some (.inl (cI 0 6)))])
theorem q199 : sum_g w0 (pm_Rt pm_P 2) S199 := wqA (by decide) (by decide)
noncomputable def S200 : Sum1 := (369, [cR 77, cI 3 3], [((84, 3), 5, 5)], [], [], [([cR 77, cI 3 3], [], [], some (.inl (cI 0 5)))])
theorem q200 : sum_g w0 (pm_Rt pm_P 2) S200 := wqA (by decide) (by decide)
noncomputable def S201 : Sum1 := (369, [cR 77, cI 3 3], [((84, 3), 4, 4)], [], [], [([cR 77, cI 3 3], [], [], some (.inl (cI 0 4)))])
theorem q201 : sum_g w0 (pm_Rt pm_P 2) S201 := wqA (by decide) (by decide)
noncomputable def S202 : Sum1 := (369, [cR 77, cI 3 3], [((84, 3), 3, 3)], [], [], [([cR 77, cI 3 3], [], [], some (.inl (cI 0 3)))])
theorem q202 : sum_g w0 (pm_Rt pm_P 2) S202 := wqA (by decide) (by decide)
noncomputable def S203 : Sum1 := (369, [cR 77, cI 3 3], [((84, 3), 2, 2)], [], [], [([cR 77, cI 3 3], [], [], some (.inl (cI 0 2)))])
theorem q203 : sum_g w0 (pm_Rt pm_P 2) S203 := wqA (by decide) (by decide)
noncomputable def S204 : Sum1 := (369, [cR 77, cI 3 3], [((84, 3), 1, 1)], [], [], [([cR 77, cI 3 3], [], [], some (.inl (cI 0 1)))])
theorem q204 : sum_g w0 (pm_Rt pm_P 2) S204 := wqA (by decide) (by decide)
noncomputable def S205 : Sum1 := (369, [cR 77, cI 4 4], [((84, 3), 1, 1)], [], [], [([cR 77, cI 4 4], [], [], some (.inl (cI 0 1)))])
theorem q205 : sum_g w0 (pm_Rt pm_P 2) S205 := wqA (by decide) (by decide)
noncomputable def S206 : Sum1 := (369, [cR 77, cI 5 5], [((84, 3), 1, 1)], [], [], [([cR 77, cI 5 5], [], [], some (.inl (cI 0 1)))])
theorem q206 : sum_g w0 (pm_Rt pm_P 2) S206 := wqA (by decide) (by decide)
noncomputable def S207 : Sum1 := (369, [cR 77, cI 6 6], [((84, 3), 1, 1)], [], [], [([cR 77, cI 6 6], [], [], some (.inl (cI 0 1)))])
theorem q207 : sum_g w0 (pm_Rt pm_P 2) S207 := wqA (by decide) (by decide)
noncomputable def S208 : Sum1 := (369, [cR 77, cI 7 7], [((84, 3), 1, 1)], [], [], [([cR 77, cI 7 7], [], [], some (.inl (cI 0 1)))])
theorem q208 : sum_g w0 (pm_Rt pm_P 2) S208 := wqA (by decide) (by decide)
noncomputable def S209 : Sum1 := (369, [cR 77, cI 8 8], [((84, 3), 1, 1)], [], [], [([cR 77, cI 8 8], [], [], some (.inl (cI 1 1)))])
theorem q209 : sum_g w0 (pm_Rt pm_P 2) S209 := wqD
noncomputable def S210 : Sum1 := (369, [cR 77, cI 4 4], [((84, 3), 2, 2)], [], [], [([cR 77, cI 4 4], [], [], some (.inl (cI 0 2)))])
theorem q210 : sum_g w0 (pm_Rt pm_P 2) S210 := wqA (by decide) (by decide)
noncomputable def S211 : Sum1 := (369, [cR 77, cI 5 5], [((84, 3), 2, 2)], [], [], [([cR 77, cI 5 5], [], [], some (.inl (cI 0 2)))])
theorem q211 : sum_g w0 (pm_Rt pm_P 2) S211 := wqA (by decide) (by decide)
noncomputable def S212 : Sum1 := (369, [cR 77, cI 6 6], [((84, 3), 2, 2)], [], [], [([cR 77, cI 6 6], [], [], some (.inl (cI 0 2)))])
theorem q212 : sum_g w0 (pm_Rt pm_P 2) S212 := wqA (by decide) (by decide)
noncomputable def S213 : Sum1 := (369, [cR 77, cI 7 7], [((84, 3), 2, 2)], [], [], [([cR 77, cI 7 7], [], [], some (.inl (cI 0 2)))])
theorem q213 : sum_g w0 (pm_Rt pm_P 2) S213 := wqA (by decide) (by decide)
noncomputable def S214 : Sum1 := (369, [cR 77, cI 8 8], [((84, 3), 2, 2)], [], [], [([cR 77, cI 8 8], [((84, 3), 2, 2)], [], some (.inr (84, 3)))])
theorem q214 : sum_g w0 (pm_Rt pm_P 2) S214 := wqB
noncomputable def S215 : Sum1 := (369, [cR 77, cI 4 4], [((84, 3), 3, 3)], [], [], [([cR 77, cI 4 4], [], [], some (.inl (cI 0 3)))])
theorem q215 : sum_g w0 (pm_Rt pm_P 2) S215 := wqA (by decide) (by decide)
noncomputable def S216 : Sum1 := (369, [cR 77, cI 5 5], [((84, 3), 3, 3)], [], [], [([cR 77, cI 5 5], [], [], some (.inl (cI 0 3)))])
theorem q216 : sum_g w0 (pm_Rt pm_P 2) S216 := wqA (by decide) (by decide)
noncomputable def S217 : Sum1 := (369, [cR 77, cI 6 6], [((84, 3), 3, 3)], [], [], [([cR 77, cI 6 6], [], [], some (.inl (cI 0 3)))])
theorem q217 : sum_g w0 (pm_Rt pm_P 2) S217 := wqA (by decide) (by decide)
noncomputable def S218 : Sum1 := (369, [cR 77, cI 7 7], [((84, 3), 3, 3)], [], [], [([cR 77, cI 7 7], [], [], some (.inl (cI 0 3)))])
theorem q218 : sum_g w0 (pm_Rt pm_P 2) S218 := wqA (by decide) (by decide)
noncomputable def S219 : Sum1 := (369, [cR 77, cI 8 8], [((84, 3), 3, 3)], [], [], [([cR 77, cI 8 8], [((84, 3), 3, 3)], [], some (.inr (84, 3)))])
theorem q219 : sum_g w0 (pm_Rt pm_P 2) S219 := wqB
noncomputable def S220 : Sum1 := (369, [cR 77, cI 4 4], [((84, 3), 4, 4)], [], [], [([cR 77, cI 4 4], [], [], some (.inl (cI 0 4)))])
theorem q220 : sum_g w0 (pm_Rt pm_P 2) S220 := wqA (by decide) (by decide)
noncomputable def S221 : Sum1 := (369, [cR 77, cI 5 5], [((84, 3), 4, 4)], [], [], [([cR 77, cI 5 5], [], [], some (.inl (cI 0 4)))])
theorem q221 : sum_g w0 (pm_Rt pm_P 2) S221 := wqA (by decide) (by decide)
noncomputable def S222 : Sum1 := (369, [cR 77, cI 6 6], [((84, 3), 4, 4)], [], [], [([cR 77, cI 6 6], [], [], some (.inl (cI 0 4)))])
theorem q222 : sum_g w0 (pm_Rt pm_P 2) S222 := wqA (by decide) (by decide)
noncomputable def S223 : Sum1 := (369, [cR 77, cI 7 7], [((84, 3), 4, 4)], [], [], [([cR 77, cI 7 7], [], [], some (.inl (cI 0 4)))])
theorem q223 : sum_g w0 (pm_Rt pm_P 2) S223 := wqA (by decide) (by decide)
noncomputable def S224 : Sum1 := (369, [cR 77, cI 8 8], [((84, 3), 4, 4)], [], [], [([cR 77, cI 8 8], [((84, 3), 4, 4)], [], some (.inr (84, 3)))])
theorem q224 : sum_g w0 (pm_Rt pm_P 2) S224 := wqB
noncomputable def S225 : Sum1 := (369, [cR 77, cI 4 4], [((84, 3), 5, 5)], [], [], [([cR 77, cI 4 4], [], [], some (.inl (cI 0 5)))])
theorem q225 : sum_g w0 (pm_Rt pm_P 2) S225 := wqA (by decide) (by decide)
noncomputable def S226 : Sum1 := (369, [cR 77, cI 5 5], [((84, 3), 5, 5)], [], [], [([cR 77, cI 5 5], [], [], some (.inl (cI 0 5)))])
theorem q226 : sum_g w0 (pm_Rt pm_P 2) S226 := wqA (by decide) (by decide)
noncomputable def S227 : Sum1 := (369, [cR 77, cI 6 6], [((84, 3), 5, 5)], [], [], [([cR 77, cI 6 6], [], [], some (.inl (cI 0 5)))])
theorem q227 : sum_g w0 (pm_Rt pm_P 2) S227 := wqA (by decide) (by decide)
noncomputable def S228 : Sum1 := (369, [cR 77, cI 7 7], [((84, 3), 5, 5)], [], [], [([cR 77, cI 7 7], [], [], some (.inl (cI 0 5)))])
theorem q228 : sum_g w0 (pm_Rt pm_P 2) S228 := wqA (by decide) (by decide)
noncomputable def S229 : Sum1 := (369, [cR 77, cI 8 8], [((84, 3), 5, 5)], [], [], [([cR 77, cI 8 8], [((84, 3), 5, 5)], [], some (.inr (84, 3)))])
theorem q229 : sum_g w0 (pm_Rt pm_P 2) S229 := wqB
noncomputable def S230 : Sum1 := (369, [cR 77, cI 4 4], [((84, 3), 6, 6)], [], [], [([cR 77, cI 4 4], [], [], some (.inl (cI 0 6)))])
theorem q230 : sum_g w0 (pm_Rt pm_P 2) S230 := wqA (by decide) (by decide)
noncomputable def S231 : Sum1 := (369, [cR 77, cI 5 5], [((84, 3), 6, 6)], [], [], [([cR 77, cI 5 5], [], [], some (.inl (cI 0 6)))])
theorem q231 : sum_g w0 (pm_Rt pm_P 2) S231 := wqA (by decide) (by decide)
noncomputable def S232 : Sum1 := (369, [cR 77, cI 6 6], [((84, 3), 6, 6)], [], [], [([cR 77, cI 6 6], [], [], some (.inl (cI 0 6)))])
theorem q232 : sum_g w0 (pm_Rt pm_P 2) S232 := wqA (by decide) (by decide)
noncomputable def S233 : Sum1 := (369, [cR 77, cI 7 7], [((84, 3), 6, 6)], [], [], [([cR 77, cI 7 7], [], [], some (.inl (cI 0 6)))])
theorem q233 : sum_g w0 (pm_Rt pm_P 2) S233 := wqA (by decide) (by decide)
noncomputable def S234 : Sum1 := (369, [cR 77, cI 8 8], [((84, 3), 6, 6)], [], [], [([cR 77, cI 8 8], [((84, 3), 6, 6)], [], some (.inr (84, 3)))])
theorem q234 : sum_g w0 (pm_Rt pm_P 2) S234 := wqB
noncomputable def S235 : Sum1 := (369, [cR 77, cI 4 4], [((84, 3), 7, 7)], [], [], [([cR 77, cI 4 4], [], [], some (.inl (cI 0 7)))])
theorem q235 : sum_g w0 (pm_Rt pm_P 2) S235 := wqA (by decide) (by decide)
noncomputable def S236 : Sum1 := (369, [cR 77, cI 5 5], [((84, 3), 7, 7)], [], [], [([cR 77, cI 5 5], [], [], some (.inl (cI 0 7)))])
theorem q236 : sum_g w0 (pm_Rt pm_P 2) S236 := wqA (by decide) (by decide)
noncomputable def S237 : Sum1 := (369, [cR 77, cI 6 6], [((84, 3), 7, 7)], [], [], [([cR 77, cI 6 6], [], [], some (.inl (cI 0 7)))])
theorem q237 : sum_g w0 (pm_Rt pm_P 2) S237 := wqA (by decide) (by decide)
noncomputable def S238 : Sum1 := (369, [cR 77, cI 7 7], [((84, 3), 7, 7)], [], [], [([cR 77, cI 7 7], [], [], some (.inl (cI 0 7)))])
theorem q238 : sum_g w0 (pm_Rt pm_P 2) S238 := wqA (by decide) (by decide)
noncomputable def S239 : Sum1 := (369, [cR 77, cI 8 8], [((84, 3), 7, 7)], [], [], [([cR 77, cI 8 8], [((84, 3), 7, 7)], [], some (.inr (84, 3)))])
theorem q239 : sum_g w0 (pm_Rt pm_P 2) S239 := wqB
end
section
/-! what is known of the methods, checked (written by emit.py) -/
noncomputable def S240 : Sum1 := (369, [cR 77, cI 4 4], [((84, 3), 8, 8)], [], [], [([cR 77, cI 4 4], [], [], some (.inl (cI 0 8)))])
theorem q240 : sum_g w0 (pm_Rt pm_P 2) S240 := wqA (by decide) (by decide)
noncomputable def S241 : Sum1 := (369, [cR 77, cI 5 5], [((84, 3), 8, 8)], [], [], [([cR 77, cI 5 5], [], [], some (.inl (cI 0 8)))])
theorem q241 : sum_g w0 (pm_Rt pm_P 2) S241 := wqA (by decide) (by decide)
noncomputable def S242 : Sum1 := (369, [cR 77, cI 6 6], [((84, 3), 8, 8)], [], [], [([cR 77, cI 6 6], [], [], some (.inl (cI 0 8)))])
theorem q242 : sum_g w0 (pm_Rt pm_P 2) S242 := wqA (by decide) (by decide)
noncomputable def S243 : Sum1 := (369, [cR 77, cI 7 7], [((84, 3), 8, 8)], [], [], [([cR 77, cI 7 7], [], [], some (.inl (cI 0 8)))])
theorem q243 : sum_g w0 (pm_Rt pm_P 2) S243 := wqA (by decide) (by decide)
noncomputable def S244 : Sum1 := (369, [cR 77, cI 8 8], [((84, 3), 8, 8)], [], [], [([cR 77, cI 8 8], [((84, 3), 8, 8)], [], some (.inr (84, 3)))])
theorem q244 : sum_g w0 (pm_Rt pm_P 2) S244 := wqB
noncomputable def S245 : Sum1 := (350, [cR 77, cI (-2147483648) 2147483647], [], [125], [(77, 0, 0), (77, 22, 23), (89, 0, 7)], [([cR 77, cI (-2147483648) 2147483647], [], [], some (.inl (cI (-2) 8))), ([cR 77, cI 0 7], [((77, 23), 0, 255), ((83, 0), 1, 2147483647), ((84, 3), 1, 8)], [], some (.inl (cI 1 1)))])
theorem q245 : sum_g w0 (pm_Rt pm_P 3) S245 := meth_okB (d := 2) (cuts := [(35, [([(2, cI 1 1), (0, cR 77), (1, cI 0 7)], [], [((77, 0), 0, 0), ((77, 23), 0, 255), ((83, 0), 1, 2147483647), ((84, 3), 8, 8)], [125], [.inl 7]), ([(2, cI 1 1), (0, cR 77), (1, cI 0 6)], [], [((77, 0), 0, 0), ((77, 23), 0, 255), ((83, 0), 1, 2147483647), ((84, 3), 7, 7)], [125], [.inl 15]), ([(2, cI 1 1), (0, cR 77), (1, cI 0 5)], [], [((77, 0), 0, 0), ((77, 23), 0, 255), ((83, 0), 1, 2147483647), ((84, 3), 6, 6)], [125], [.inl 23]), ([(2, cI 1 1), (0, cR 77), (1, cI 0 4)], [], [((77, 0), 0, 0), ((77, 23), 0, 255), ((83, 0), 1, 2147483647), ((84, 3), 5, 5)], [125], [.inl 31]), ([(2, cI 1 1), (0, cR 77), (1, cI 0 3)], [], [((77, 0), 0, 0), ((77, 23), 0, 255), ((83, 0), 1, 2147483647), ((84, 3), 4, 4)], [125], [.inl 39]), ([(2, cI 1 1), (0, cR 77), (1, cI 0 2)], [], [((77, 0), 0, 0), ((77, 23), 0, 255), ((83, 0), 1, 2147483647), ((84, 3), 3, 3)], [125], [.inl 47]), ([(2, cI 1 1), (0, cR 77), (1, cI 0 1)], [], [((77, 0), 0, 0), ((77, 23), 0, 255), ((83, 0), 1, 2147483647), ((84, 3), 2, 2)], [125], [.inl 55]), ([(2, cI 1 1), (0, cR 77), (1, cI 0 0)], [], [((77, 0), 0, 0), ((77, 23), 0, 255), ((83, 0), 1, 2147483647), ((84, 3), 1, 1)], [125], [.inl 63]), ([(2, cI 2 2), (0, cR 77), (1, cI 0 7)], [], [((77, 0), 0, 0), ((77, 23), 0, 255), ((83, 0), 1, 2147483647), ((84, 3), 8, 8)], [125], [.inl 6]), ([(2, cI 2 2), (0, cR 77), (1, cI 0 6)], [], [((77, 0), 0, 0), ((77, 23), 0, 255), ((83, 0), 1, 2147483647), ((84, 3), 7, 7)], [125], [.inl 14]), ([(2, cI 2 2), (0, cR 77), (1, cI 0 5)], [], [((77, 0), 0, 0), ((77, 23), 0, 255), ((83, 0), 1, 2147483647), ((84, 3), 6, 6)], [125], [.inl 22]), ([(2, cI 2 2), (0, cR 77), (1, cI 0 4)], [], [((77, 0), 0, 0), ((77, 23), 0, 255), ((83, 0), 1, 2147483647), ((84, 3), 5, 5)], [125], [.inl 30]), ([(2, cI 2 2), (0, cR 77), (1, cI 0 3)], [], [((77, 0), 0, 0), ((77, 23), 0, 255), ((83, 0), 1, 2147483647), ((84, 3), 4, 4)], [125], [.inl 38]), ([(2, cI 2 2), (0, cR 77), (1, cI 0 2)], [], [((77, 0), 0, 0), ((77, 23), 0, 255), ((83, 0), 1, 2147483647), ((84, 3), 3, 3)], [125], [.inl 46]), ([(2, cI 2 2), (0, cR 77), (1, cI 0 1)], [], [((77, 0), 0, 0), ((77, 23), 0, 255), ((83, 0), 1, 2147483647), ((84, 3), 2, 2)], [125], [.inl 54]), ([(2, cI 2 2), (0, cR 77), (1, cI 0 0)], [], [((77, 0), 0, 0), ((77, 23), 0, 255), ((83, 0), 1, 2147483647), ((84, 3), 1, 1)], [125], [.inl 62]), ([(2, cI 3 3), (0, cR 77), (1, cI 0 7)], [], [((77, 0), 0, 0), ((77, 23), 0, 255), ((83, 0), 1, 2147483647), ((84, 3), 8, 8)], [125], [.inl 5]), ([(2, cI 3 3), (0, cR 77), (1, cI 0 6)], [], [((77, 0), 0, 0), ((77, 23), 0, 255), ((83, 0), 1, 2147483647), ((84, 3), 7, 7)], [125], [.inl 13]), ([(2, cI 3 3), (0, cR 77), (1, cI 0 5)], [], [((77, 0), 0, 0), ((77, 23), 0, 255), ((83, 0), 1, 2147483647), ((84, 3), 6, 6)], [125], [.inl 21]), ([(2, cI 3 3), (0, cR 77), (1, cI 0 4)], [], [((77, 0), 0, 0), ((77, 23), 0, 255), ((83, 0), 1, 2147483647), ((84, 3), 5, 5)], [125], [.inl 29]), ([(2, cI 3 3), (0, cR 77), (1, cI 0 3)], [], [((77, 0), 0, 0), ((77, 23), 0, 255), ((83, 0), 1, 2147483647), ((84, 3), 4, 4)], [125], [.inl 37]), ([(2, cI 3 3), (0, cR 77), (1, cI 0 2)], [], [((77, 0), 0, 0), ((77, 23), 0, 255), ((83, 0), 1, 2147483647), ((84, 3), 3, 3)], [125], [.inl 45]), ([(2, cI 3 3), (0, cR 77), (1, cI 0 1)], [], [((77, 0), 0, 0), ((77, 23), 0, 255), ((83, 0), 1, 2147483647), ((84, 3), 2, 2)], [125], [.inl 53]), ([(2, cI 3 3), (0, cR 77), (1, cI 0 0)], [], [((77, 0), 0, 0), ((77, 23), 0, 255), ((83, 0), 1, 2147483647), ((84, 3), 1, 1)], [125], [.inl 61]), ([(2, cI 4 4), (0, cR 77), (1, cI 0 0)], [], [((77, 0), 0, 0), ((77, 23), 0, 255), ((83, 0), 1, 2147483647), ((84, 3), 1, 1)], [125], [.inl 60]), ([(2, cI 5 5), (0, cR 77), (1, cI 0 0)], [], [((77, 0), 0, 0), ((77, 23), 0, 255), ((83, 0), 1, 2147483647), ((84, 3), 1, 1)], [125], [.inl 59]), ([(2, cI 6 6), (0, cR 77), (1, cI 0 0)], [], [((77, 0), 0, 0), ((77, 23), 0, 255), ((83, 0), 1, 2147483647), ((84, 3), 1, 1)], [125], [.inl 58]), ([(2, cI 7 7), (0, cR 77), (1, cI 0 0)], [], [((77, 0), 0, 0), ((77, 23), 0, 255), ((83, 0), 1, 2147483647), ((84, 3), 1, 1)], [125], [.inl 57]), ([(2, cI 8 8), (0, cR 77), (1, cI 0 0)], [], [((77, 0), 0, 0), ((77, 23), 0, 255), ((83, 0), 1, 2147483647), ((84, 3), 1, 1)], [125], [.inl 56]), ([(2, cI 4 4), (0, cR 77), (1, cI 0 1)], [], [((77, 0), 0, 0), ((77, 23), 0, 255), ((83, 0), 1, 2147483647), ((84, 3), 2, 2)], [125], [.inl 52]), ([(2, cI 5 5), (0, cR 77), (1, cI 0 1)], [], [((77, 0), 0, 0), ((77, 23), 0, 255), ((83, 0), 1, 2147483647), ((84, 3), 2, 2)], [125], [.inl 51]), ([(2, cI 6 6), (0, cR 77), (1, cI 0 1)], [], [((77, 0), 0, 0), ((77, 23), 0, 255), ((83, 0), 1, 2147483647), ((84, 3), 2, 2)], [125], [.inl 50]), ([(2, cI 7 7), (0, cR 77), (1, cI 0 1)], [], [((77, 0), 0, 0), ((77, 23), 0, 255), ((83, 0), 1, 2147483647), ((84, 3), 2, 2)], [125], [.inl 49]), ([(2, cI 8 8), (0, cR 77), (1, cI 0 1)], [], [((77, 0), 0, 0), ((77, 23), 0, 255), ((83, 0), 1, 2147483647), ((84, 3), 2, 2)], [125], [.inl 48]), ([(2, cI 4 4), (0, cR 77), (1, cI 0 2)], [], [((77, 0), 0, 0), ((77, 23), 0, 255), ((83, 0), 1, 2147483647), ((84, 3), 3, 3)], [125], [.inl 44]), ([(2, cI 5 5), (0, cR 77), (1, cI 0 2)], [], [((77, 0), 0, 0), ((77, 23), 0, 255), ((83, 0), 1, 2147483647), ((84, 3), 3, 3)], [125], [.inl 43]), ([(2, cI 6 6), (0, cR 77), (1, cI 0 2)], [], [((77, 0), 0, 0), ((77, 23), 0, 255), ((83, 0), 1, 2147483647), ((84, 3), 3, 3)], [125], [.inl 42]), ([(2, cI 7 7), (0, cR 77), (1, cI 0 2)], [], [((77, 0), 0, 0), ((77, 23), 0, 255), ((83, 0), 1, 2147483647), ((84, 3), 3, 3)], [125], [.inl 41]), ([(2, cI 8 8), (0, cR 77), (1, cI 0 2)], [], [((77, 0), 0, 0), ((77, 23), 0, 255), ((83, 0), 1, 2147483647), ((84, 3), 3, 3)], [125], [.inl 40]), ([(2, cI 4 4), (0, cR 77), (1, cI 0 3)], [], [((77, 0), 0, 0), ((77, 23), 0, 255), ((83, 0), 1, 2147483647), ((84, 3), 4, 4)], [125], [.inl 36]), ([(2, cI 5 5), (0, cR 77), (1, cI 0 3)], [], [((77, 0), 0, 0), ((77, 23), 0, 255), ((83, 0), 1, 2147483647), ((84, 3), 4, 4)], [125], [.inl 35]), ([(2, cI 6 6), (0, cR 77), (1, cI 0 3)], [], [((77, 0), 0, 0), ((77, 23), 0, 255), ((83, 0), 1, 2147483647), ((84, 3), 4, 4)], [125], [.inl 34]), ([(2, cI 7 7), (0, cR 77), (1, cI 0 3)], [], [((77, 0), 0, 0), ((77, 23), 0, 255), ((83, 0), 1, 2147483647), ((84, 3), 4, 4)], [125], [.inl 33]), ([(2, cI 8 8), (0, cR 77), (1, cI 0 3)], [], [((77, 0), 0, 0), ((77, 23), 0, 255), ((83, 0), 1, 2147483647), ((84, 3), 4, 4)], [125], [.inl 32]), ([(2, cI 4 4), (0, cR 77), (1, cI 0 4)], [], [((77, 0), 0, 0), ((77, 23), 0, 255), ((83, 0), 1, 2147483647), ((84, 3), 5, 5)], [125], [.inl 28]), ([(2, cI 5 5), (0, cR 77), (1, cI 0 4)], [], [((77, 0), 0, 0), ((77, 23), 0, 255), ((83, 0), 1, 2147483647), ((84, 3), 5, 5)], [125], [.inl 27]), ([(2, cI 6 6), (0, cR 77), (1, cI 0 4)], [], [((77, 0), 0, 0), ((77, 23), 0, 255), ((83, 0), 1, 2147483647), ((84, 3), 5, 5)], [125], [.inl 26]), ([(2, cI 7 7), (0, cR 77), (1, cI 0 4)], [], [((77, 0), 0, 0), ((77, 23), 0, 255), ((83, 0), 1, 2147483647), ((84, 3), 5, 5)], [125], [.inl 25]), ([(2, cI 8 8), (0, cR 77), (1, cI 0 4)], [], [((77, 0), 0, 0), ((77, 23), 0, 255), ((83, 0), 1, 2147483647), ((84, 3), 5, 5)], [125], [.inl 24]), ([(2, cI 4 4), (0, cR 77), (1, cI 0 5)], [], [((77, 0), 0, 0), ((77, 23), 0, 255), ((83, 0), 1, 2147483647), ((84, 3), 6, 6)], [125], [.inl 20]), ([(2, cI 5 5), (0, cR 77), (1, cI 0 5)], [], [((77, 0), 0, 0), ((77, 23), 0, 255), ((83, 0), 1, 2147483647), ((84, 3), 6, 6)], [125], [.inl 19]), ([(2, cI 6 6), (0, cR 77), (1, cI 0 5)], [], [((77, 0), 0, 0), ((77, 23), 0, 255), ((83, 0), 1, 2147483647), ((84, 3), 6, 6)], [125], [.inl 18]), ([(2, cI 7 7), (0, cR 77), (1, cI 0 5)], [], [((77, 0), 0, 0), ((77, 23), 0, 255), ((83, 0), 1, 2147483647), ((84, 3), 6, 6)], [125], [.inl 17]), ([(2, cI 8 8), (0, cR 77), (1, cI 0 5)], [], [((77, 0), 0, 0), ((77, 23), 0, 255), ((83, 0), 1, 2147483647), ((84, 3), 6, 6)], [125], [.inl 16]), ([(2, cI 4 4), (0, cR 77), (1, cI 0 6)], [], [((77, 0), 0, 0), ((77, 23), 0, 255), ((83, 0), 1, 2147483647), ((84, 3), 7, 7)], [125], [.inl 12]), ([(2, cI 5 5), (0, cR 77), (1, cI 0 6)], [], [((77, 0), 0, 0), ((77, 23), 0, 255), ((83, 0), 1, 2147483647), ((84, 3), 7, 7)], [125], [.inl 11]), ([(2, cI 6 6), (0, cR 77), (1, cI 0 6)], [], [((77, 0), 0, 0), ((77, 23), 0, 255), ((83, 0), 1, 2147483647), ((84, 3), 7, 7)], [125], [.inl 10]), ([(2, cI 7 7), (0, cR 77), (1, cI 0 6)], [], [((77, 0), 0, 0), ((77, 23), 0, 255), ((83, 0), 1, 2147483647), ((84, 3), 7, 7)], [125], [.inl 9]), ([(2, cI 8 8), (0, cR 77), (1, cI 0 6)], [], [((77, 0), 0, 0), ((77, 23), 0, 255), ((83, 0), 1, 2147483647), ((84, 3), 7, 7)], [125], [.inl 8]), ([(2, cI 4 4), (0, cR 77), (1, cI 0 7)], [], [((77, 0), 0, 0), ((77, 23), 0, 255), ((83, 0), 1, 2147483647), ((84, 3), 8, 8)], [125], [.inl 4]), ([(2, cI 5 5), (0, cR 77), (1, cI 0 7)], [], [((77, 0), 0, 0), ((77, 23), 0, 255), ((83, 0), 1, 2147483647), ((84, 3), 8, 8)], [125], [.inl 3]), ([(2, cI 6 6), (0, cR 77), (1, cI 0 7)], [], [((77, 0), 0, 0), ((77, 23), 0, 255), ((83, 0), 1, 2147483647), ((84, 3), 8, 8)], [125], [.inl 2]), ([(2, cI 7 7), (0, cR 77), (1, cI 0 7)], [], [((77, 0), 0, 0), ((77, 23), 0, 255), ((83, 0), 1, 2147483647), ((84, 3), 8, 8)], [125], [.inl 1]), ([(2, cI 8 8), (0, cR 77), (1, cI 0 7)], [], [((77, 0), 0, 0), ((77, 23), 0, 255), ((83, 0), 1, 2147483647), ((84, 3), 8, 8)], [125], [.inl 0])])]) (spl := [25]) (K := [0, 1]) (N := 17) (sums := [S181, S182, S183, S184, S185, S186, S187, S188, S189, S190, S191, S192, S193, S194, S195, S196, S197, S198, S199, S200, S201, S202, S203, S204, S205, S206, S207, S208, S209, S210, S211, S212, S213, S214, S215, S216, S217, S218, S219, S220, S221, S222, S223, S224, S225, S226, S227, S228, S229, S230, S231, S232, S233, S234, S235, S236, S237, S238, S239, S240, S241, S242, S243, S244, S160, S118, S112]) aiX9_sorted (abX9_sorted w0) (by decide) (List.forall_mem_cons.mpr ⟨sum_up q181 0, List.forall_mem_cons.mpr ⟨sum_up q182 0, List.forall_mem_cons.mpr ⟨sum_up q183 0, List.forall_mem_cons.mpr ⟨sum_up q184 0, List.forall_mem_cons.mpr ⟨sum_up q185 0, List.forall_mem_cons.mpr ⟨sum_up q186 0, List.forall_mem_cons.mpr ⟨sum_up q187 0, List.forall_mem_cons.mpr ⟨sum_up q188 0, List.forall_mem_cons.mpr ⟨sum_up q189 0, List.forall_mem_cons.mpr ⟨sum_up q190 0, List.forall_mem_cons.mpr ⟨sum_up q191 0, List.forall_mem_cons.mpr ⟨sum_up q192 0, List.forall_mem_cons.mpr ⟨sum_up q193 0, List.forall_mem_cons.mpr ⟨sum_up q194 0, List.forall_mem_cons.mpr ⟨sum_up q195 0, List.forall_mem_cons.mpr ⟨sum_up q196 0, List.forall_mem_cons.mpr ⟨sum_up q197 0, List.forall_mem_cons.mpr ⟨sum_up q198 0, List.forall_mem_cons.mpr ⟨sum_up q199 0, List.forall_mem_cons.mpr ⟨sum_up q200 0, List.forall_mem_cons.mpr ⟨sum_up q201 0, List.forall_mem_cons.mpr ⟨sum_up q202 0, List.forall_mem_cons.mpr ⟨sum_up q203 0, List.forall_mem_cons.mpr ⟨sum_up q204 0, List.forall_mem_cons.mpr ⟨sum_up q205 0, List.forall_mem_cons.mpr ⟨sum_up q206 0, List.forall_mem_cons.mpr ⟨sum_up q207 0, List.forall_mem_cons.mpr ⟨sum_up q208 0, List.forall_mem_cons.mpr ⟨sum_up q209 0, List.forall_mem_cons.mpr ⟨sum_up q210 0, List.forall_mem_cons.mpr ⟨sum_up q211 0, List.forall_mem_cons.mpr ⟨sum_up q212 0, List.forall_mem_cons.mpr ⟨sum_up q213 0, List.forall_mem_cons.mpr ⟨sum_up q214 0, List.forall_mem_cons.mpr ⟨sum_up q215 0, List.forall_mem_cons.mpr ⟨sum_up q216 0, List.forall_mem_cons.mpr ⟨sum_up q217 0, List.forall_mem_cons.mpr ⟨sum_up q218 0, List.forall_mem_cons.mpr ⟨sum_up q219 0, List.forall_mem_cons.mpr ⟨sum_up q220 0, List.forall_mem_cons.mpr ⟨sum_up q221 0, List.forall_mem_cons.mpr ⟨sum_up q222 0, List.forall_mem_cons.mpr ⟨sum_up q223 0, List.forall_mem_cons.mpr ⟨sum_up q224 0, List.forall_mem_cons.mpr ⟨sum_up q225 0, List.forall_mem_cons.mpr ⟨sum_up q226 0, List.forall_mem_cons.mpr ⟨sum_up q227 0, List.forall_mem_cons.mpr ⟨sum_up q228 0, List.forall_mem_cons.mpr ⟨sum_up q229 0, List.forall_mem_cons.mpr ⟨sum_up q230 0, List.forall_mem_cons.mpr ⟨sum_up q231 0, List.forall_mem_cons.mpr ⟨sum_up q232 0, List.forall_mem_cons.mpr ⟨sum_up q233 0, List.forall_mem_cons.mpr ⟨sum_up q234 0, List.forall_mem_cons.mpr ⟨sum_up q235 0, List.forall_mem_cons.mpr ⟨sum_up q236 0, List.forall_mem_cons.mpr ⟨sum_up q237 0, List.forall_mem_cons.mpr ⟨sum_up q238 0, List.forall_mem_cons.mpr ⟨sum_up q239 0, List.forall_mem_cons.mpr ⟨sum_up q240 0, List.forall_mem_cons.mpr ⟨sum_up q241 0, List.forall_mem_cons.mpr ⟨sum_up q242 0, List.forall_mem_cons.mpr ⟨sum_up q243 0, List.forall_mem_cons.mpr ⟨sum_up q244 0, List.forall_mem_cons.mpr ⟨sum_up q160 1, List.forall_mem_cons.mpr ⟨sum_up q118 0, List.forall_mem_cons.mpr ⟨sum_up q112 1, fun _ h => absurd h List.not_mem_nil⟩⟩⟩⟩⟩⟩⟩⟩⟩⟩⟩⟩⟩⟩⟩⟩⟩⟩⟩⟩⟩⟩⟩⟩⟩⟩⟩⟩⟩⟩⟩⟩⟩⟩⟩⟩⟩⟩⟩⟩⟩⟩⟩⟩⟩⟩⟩⟩⟩⟩⟩⟩⟩⟩⟩⟩⟩⟩⟩⟩⟩⟩⟩⟩⟩⟩⟩) (by decide +kernel)
noncomputable def S246 : Sum1 := (125, [cR 0], [], [], [], [([cR 0], [], [], some (.inl (cI 0 0))), ([cR 0], [], [], some (.inl (cI 1 1)))])
theorem q246 : sum_g w0 (pm_Rt pm_P 2) S246 := meth_okB (d := 1) (cuts := [(21, [([(0, cR 0), (1, cI 1 9)], [], [((15, 0), 0, 8), ((15, 4), 0, 8)], [], [.inl 0, .inr (.inl 1, true), .inl 0])])]) (spl := []) (K := [0]) (N := 13) (sums := [S179]) aiX8_isLawful (abX8_isLawful w0) (by decide) (List.forall_mem_cons.mpr ⟨sum_up q179 0, fun _ h => absurd h List.not_mem_nil⟩) (by decide +kernel)
noncomputable def S247 : Sum1 := (136, [cR 0], [], [], [], [([cR 0], [((15, 0), 0, 0)], [], some (.inl (cI (-2) (-2)))), ([cR 0], [((15, 0), 1, 8)], [], some (.inl (cI 1 1))), ([cR 0], [((15, 0), 1, 8)], [], some (.inl (cI 0 0)))])
theorem q247 : sum_g w0 (pm_Rt pm_P 3) S247 := meth_okB (d := 2) (cuts := []) (spl := []) (K := [0]) (N := 10) (sums := [S158, S246]) aiX8_lawful (abX8_lawful w0) (by decide) (List.forall_mem_cons.mpr ⟨sum_up q158 1, List.forall_mem_cons.mpr ⟨sum_up q246 0, fun _ h => absurd h List.not_mem_nil⟩⟩) (by decide +kernel)
noncomputable def S248 : Sum1 := (369, [cR 77, cI 1 8], [], [], [], [([cR 77, cI 1 8], [((84, 3), 0, 0)], [], some (.inl (cI 0 0))), ([cR 77, cI 1 8], [((84, 3), 1, 8)], [], some (.inl (cI 0 8)))])
theorem q248 : sum_g w0 (pm_Rt pm_P 2) S248 := wqC (by decide) (by decide)
noncomputable def S249 : Sum1 := (272, [cR 77], [], [], [], [([cR 77], [], [], some (.inl (cI 0 0))), ([cR 77], [], [], some (.inl (cI 1 1)))])
theorem q249 : sum_g w0 (pm_Rt pm_P 3) S249 := meth_okB (d := 2) (cuts := [(15, [([(0, cR 77), (1, cI 1 9)], [], [], [], [.inl 0, .inr (.inl 1, true), .inl 0])])]) (spl := []) (K := [0]) (N := 12) (sums := [S112, S140, S248]) aiX9_isLawful (abX9_isLawful w0) (by decide) (List.forall_mem_cons.mpr ⟨sum_up q112 1, List.forall_mem_cons.mpr ⟨sum_up q140 1, List.forall_mem_cons.mpr ⟨sum_up q248 0, fun _ h => absurd h List.not_mem_nil⟩⟩⟩) (by decide +kernel)
noncomputable def S250 : Sum1 := (291, [cR 77], [], [125], [(77, 0, 0), (77, 22, 23), (89, 0, 7)], [([cR 77], [((83, 0), (-2147483648), 0)], [], some (.inl (cI (-2) (-2)))), ([cR 77], [((77, 23), 0, 255), ((83, 0), 1, 2147483647)], [], some (.inl (cI 1 1))), ([cR 77], [((77, 23), 0, 255), ((83, 0), 1, 2147483647)], [], some (.inl (cI 0 0)))])
theorem q250 : sum_g w0 (pm_Rt pm_P 4) S250 := meth_okB (d := 3) (cuts := []) (spl := []) (K := [0]) (N := 15) (sums := [S160, S118, S249]) aiX9_lawful (abX9_lawful w0) (by decide) (List.forall_mem_cons.mpr ⟨sum_up q160 2, List.forall_mem_cons.mpr ⟨sum_up q118 1, List.forall_mem_cons.mpr ⟨sum_up q249 0, fun _ h => absurd h List.not_mem_nil⟩⟩⟩) (by decide +kernel)
noncomputable def S251 : Sum1 := (200, [cR 0, cI 1 7], [], [], [], [([cR 0, cI 1 7], [], [], some (.inl (cI (-2147483648) 2147483647)))])
theorem q251 : sum_g w0 (pm_Rt pm_P 1) S251 := meth_okB (d := 0) (cuts := [(4, [([(0, cR 0), (1, cI 1 7), (2, cI (-2147483648) 2147483647), (3, cI 0 8)], [], [], [], [.inl 0, .inr (.inl 3, true), .inl 0])])]) (spl := []) (K := [0, 1]) (N := 16) (sums := []) aiX8_wishesUpTo (abX8_wishesUpTo w0) (by decide) (fun _ h => absurd h List.not_mem_nil) (by decide +kernel)
noncomputable def S252 : Sum1 := (162, [cR 0], [], [], [], [([cR 0], [((15, 0), 0, 0)], [], some (.inl (cI (-2) (-2)))), ([cR 0], [((15, 0), 1, 8)], [], some (.inl (cI 0 0))), ([cR 0], [((15, 0), 1, 8)], [], some (.inl (cI 1 1)))])
theorem q252 : sum_g w0 (pm_Rt pm_P 3) S252 := meth_okB (d := 2) (cuts := [(21, [([(0, cR 0), (1, cI 1 8)], [], [((15, 0), 1, 8)], [], [.inl 0, .inr (.inl 1, true), .inl 0])])]) (spl := []) (K := [0]) (N := 13) (sums := [S158, S246, S251]) aiX8_prime (abX8_prime w0) (by decide) (List.forall_mem_cons.mpr ⟨sum_up q158 1, List.forall_mem_cons.mpr ⟨sum_up q246 0, List.forall_mem_cons.mpr ⟨sum_up q251 1, fun _ h => absurd h List.not_mem_nil⟩⟩⟩) (by decide +kernel)
noncomputable def S253 : Sum1 := (369, [cR 77, cI 1 7], [], [], [], [([cR 77, cI 1 7], [((84, 3), 0, 0)], [], some (.inl (cI 0 0))), ([cR 77, cI 1 7], [((84, 3), 1, 8)], [], some (.inl (cI 0 8)))])
theorem q253 : sum_g w0 (pm_Rt pm_P 2) S253 := wqC (by decide) (by decide)
noncomputable def S254 : Sum1 := (327, [cR 77], [], [125], [(77, 0, 0), (77, 22, 23), (89, 0, 7)], [([cR 77], [((83, 0), (-2147483648), 0)], [], some (.inl (cI (-2) (-2)))), ([cR 77], [((77, 23), 0, 255), ((83, 0), 1, 2147483647)], [], some (.inl (cI 0 0))), ([cR 77], [((77, 23), 0, 255), ((83, 0), 1, 2147483647)], [], some (.inl (cI 1 1)))])
theorem q254 : sum_g w0 (pm_Rt pm_P 4) S254 := meth_okB (d := 3) (cuts := [(30, [([(0, cR 77), (1, cI 1 8)], [], [((77, 0), 0, 0), ((77, 23), 0, 255), ((83, 0), 1, 2147483647)], [125], [.inl 0, .inr (.inl 1, true), .inl 0])])]) (spl := []) (K := [0]) (N := 14) (sums := [S160, S118, S249, S140, S253]) aiX9_prime (abX9_prime w0) (by decide) (List.forall_mem_cons.mpr ⟨sum_up q160 2, List.forall_mem_cons.mpr ⟨sum_up q118 1, List.forall_mem_cons.mpr ⟨sum_up q249 0, List.forall_mem_cons.mpr ⟨sum_up q140 2, List.forall_mem_cons.mpr ⟨sum_up q253 1, fun _ h => absurd h List.not_mem_nil⟩⟩⟩⟩⟩) (by decide +kernel)
noncomputable def S255 : Sum1 := (172, [cR 0, cI 0 0], [], [], [], [([cR 0, cI 0 0], [], [], some (.inl (cI (-2) (-2))))])
theorem q255 : sum_g w0 (pm_Rt pm_P 1) S255 := meth_okB (d := 0) (cuts := []) (spl := []) (K := [0, 1]) (N := 5) (sums := []) aiX8_rowRefusal (abX8_rowRefusal w0) (by decide) (fun _ h => absurd h List.not_mem_nil) (by decide +kernel)
noncomputable def S256 : Sum1 := (172, [cR 0, cI 1 1], [], [], [], [([cR 0, cI 1 1], [], [], some (.inl (cI 0 0))), ([cR 0, cI 1 1], [], [], some (.inl (cI (-1) (-1))))])
theorem q256 : sum_g w0 (pm_Rt pm_P 3) S256 := meth_okB (d := 2) (cuts := []) (spl := []) (K := [0, 1]) (N := 9) (sums := [S246]) aiX8_rowRefusal (abX8_rowRefusal w0) (by decide) (List.forall_mem_cons.mpr ⟨sum_up q246 0, fun _ h => absurd h List.not_mem_nil⟩) (by decide +kernel)
noncomputable def S257 : Sum1 := (86, [cR 0], [], [], [], [([cR 0], [], [], some (.inl (cI (-2147483648) 2147483647)))])
theorem q257 : sum_g w0 (pm_Rt pm_P 4) S257 := meth_okB (d := 3) (cuts := [(19, [([(0, cR 0), (1, cI 0 0), (2, cI (-2147483648) 2147483647), (3, cI 1 9)], [], [((15, 0), 1, 8)], [], [.inl 0, .inr (.inl 3, true), .inl 0])])]) (spl := []) (K := [0]) (N := 14) (sums := [S158, S255, S256, S179]) aiX8_breaks (abX8_breaks w0) (by decide) (List.forall_mem_cons.mpr ⟨sum_up q158 2, List.forall_mem_cons.mpr ⟨sum_up q255 2, List.forall_mem_cons.mpr ⟨sum_up q256 0, List.forall_mem_cons.mpr ⟨sum_up q179 2, fun _ h => absurd h List.not_mem_nil⟩⟩⟩⟩) (by decide +kernel)
noncomputable def S258 : Sum1 := (219, [cR 77], [], [125], [(77, 0, 0), (77, 22, 23), (89, 0, 7)], [([cR 77], [], [], some (.inl (cI (-2147483648) 2147483647)))])
theorem q258 : sum_g w0 (pm_Rt pm_P 4) S258 := meth_okB (d := 3) (cuts := [(32, [([(0, cR 77), (1, cI (-2147483648) 2147483647), (2, cI 1 9)], [], [((77, 0), 0, 0), ((77, 23), 0, 255), ((83, 0), 1, 2147483647)], [125], [.inl 0, .inr (.inl 2, true), .inl 0])])]) (spl := []) (K := [0]) (N := 17) (sums := [S160, S118, S249, S140, S248]) aiX9_breaks (abX9_breaks w0) (by decide) (List.forall_mem_cons.mpr ⟨sum_up q160 2, List.forall_mem_cons.mpr ⟨sum_up q118 1, List.forall_mem_cons.mpr ⟨sum_up q249 0, List.forall_mem_cons.mpr ⟨sum_up q140 2, List.forall_mem_cons.mpr ⟨sum_up q248 1, fun _ h => absurd h List.not_mem_nil⟩⟩⟩⟩⟩) (by decide +kernel)
noncomputable def S259 : Sum1 := (25, [cI 0 0, cI 0 8, cI 0 511, cI 0 8], [], [], [], [([cI 0 0, cI 0 8, cI 0 511, cI 0 8], [], [], some (.inl (cI 0 0))), ([cI 0 0, cI 0 8, cI 0 511, cI 0 8], [], [], some (.inl (cI 0 8)))])
theorem q259 : sum_g w0 (pm_Rt pm_P 3) S259 := meth_okB (d := 2) (cuts := []) (spl := []) (K := [0, 1, 2, 3]) (N := 25) (sums := [S121, S129]) aiX1_spotFor (abX1_spotFor w0) (by decide) (List.forall_mem_cons.mpr ⟨sum_up q121 1, List.forall_mem_cons.mpr ⟨sum_up q129 0, fun _ h => absurd h List.not_mem_nil⟩⟩) (by decide +kernel)
noncomputable def S260 : Sum1 := (20, [cR 62, cR 17, cI 0 8, cI 0 255, cI 0 8, cI 0 0], [], [], [(62, 1, 3), (63, 0, 7)], [([cR 62, cR 17, cI 0 8, cI 0 255, cI 0 8, cI 0 0], [], [], none)])
theorem q260 : sum_g w0 (pm_Rt pm_P 4) S260 := meth_okB (d := 3) (cuts := [(18, [([(0, cR 62), (1, cR 17), (2, cI 0 8), (3, cI 0 255), (4, cI 0 8), (5, cI 0 0), (6, cI 0 8)], [], [], [], [.inl 0, .inr (.inl 6, true), .inl 0])])]) (spl := []) (K := [0, 1, 2, 3, 4, 5]) (N := 31) (sums := [S135, S134, S259]) aiX1_fill (abX1_fill w0) (by decide) (List.forall_mem_cons.mpr ⟨sum_up q135 2, List.forall_mem_cons.mpr ⟨sum_up q134 1, List.forall_mem_cons.mpr ⟨sum_up q259 0, fun _ h => absurd h List.not_mem_nil⟩⟩⟩) (by decide +kernel)
noncomputable def S261 : Sum1 := (153, [cR 0, cR 17, cI 0 0], [], [], [(62, 1, 3), (63, 0, 7)], [([cR 0, cR 17, cI 0 0], [], [], none)])
theorem q261 : sum_g w0 (pm_Rt pm_P 5) S261 := meth_okB (d := 4) (cuts := []) (spl := []) (K := [0, 1, 2]) (N := 15) (sums := [S120, S260]) aiX8_park (abX8_park w0) (by decide) (List.forall_mem_cons.mpr ⟨sum_up q120 3, List.forall_mem_cons.mpr ⟨sum_up q260 0, fun _ h => absurd h List.not_mem_nil⟩⟩) (by decide +kernel)
noncomputable def S262 : Sum1 := (188, [cI 0 511, cI 1 8], [], [], [], [([cI 0 511, cI 1 8], [], [], some (.inl (cI (-2147483648) 2147483647)))])
theorem q262 : sum_g w0 (pm_Rt pm_P 2) S262 := meth_okB (d := 1) (cuts := [(4, [([(0, cI 0 511), (1, cI 1 8), (2, cI (-2147483648) 2147483647), (3, cI 0 8)], [], [], [], [.inl 0, .inr (.inl 3, false), .inl 0])])]) (spl := []) (K := [0, 1]) (N := 11) (sums := [S125]) aiX8_takenUpTo (abX8_takenUpTo w0) (by decide) (List.forall_mem_cons.mpr ⟨sum_up q125 0, fun _ h => absurd h List.not_mem_nil⟩) (by decide +kernel)
noncomputable def S263 : Sum1 := (188, [cI 0 511, cI 0 8], [], [], [], [([cI 0 511, cI 0 8], [], [], some (.inl (cI (-2147483648) 2147483647)))])
theorem q263 : sum_g w0 (pm_Rt pm_P 2) S263 := meth_okB (d := 1) (cuts := [(4, [([(0, cI 0 511), (1, cI 0 8), (2, cI (-2147483648) 2147483647), (3, cI 0 8)], [], [], [], [.inl 0, .inr (.inl 3, false), .inl 0])])]) (spl := []) (K := [0, 1]) (N := 11) (sums := [S125]) aiX8_takenUpTo (abX8_takenUpTo w0) (by decide) (List.forall_mem_cons.mpr ⟨sum_up q125 0, fun _ h => absurd h List.not_mem_nil⟩) (by decide +kernel)
noncomputable def S264 : Sum1 := (142, [cR 0], [], [], [(62, 1, 3), (63, 0, 7)], [([cR 0], [], [], some (.inl (cI (-2147483648) 2147483647)))])
theorem q264 : sum_g w0 (pm_Rt pm_P 6) S264 := meth_okB (d := 5) (cuts := [(28, [([(0, cR 0), (1, cI (-2147483648) 2147483647), (2, cI 0 511), (3, cI 0 8)], [], [((15, 0), 1, 8)], [], [.inl 0, .inr (.inl 3, true), .inl 0])])]) (spl := []) (K := [0]) (N := 31) (sums := [S158, S261, S58, S262, S263]) aiX8_likes (abX8_likes w0) (by decide) (List.forall_mem_cons.mpr ⟨sum_up q158 4, List.forall_mem_cons.mpr ⟨sum_up q261 0, List.forall_mem_cons.mpr ⟨sum_up q58 4, List.forall_mem_cons.mpr ⟨sum_up q262 3, List.forall_mem_cons.mpr ⟨sum_up q263 3, fun _ h => absurd h List.not_mem_nil⟩⟩⟩⟩⟩) (by decide +kernel)
noncomputable def S265 : Sum1 := (249, [cR 77, cI 0 8, cI 0 0], [], [], [], [([cR 77, cI 0 8, cI 0 0], [], [], some (.inl (cI (-1) 8)))])
theorem q265 : sum_g w0 (pm_Rt pm_P 3) S265 := meth_okB (d := 2) (cuts := []) (spl := []) (K := [0, 1, 2]) (N := 28) (sums := [S140, S141, S144]) aiX9_findsBy (abX9_findsBy w0) (by decide) (List.forall_mem_cons.mpr ⟨sum_up q140 1, List.forall_mem_cons.mpr ⟨sum_up q141 1, List.forall_mem_cons.mpr ⟨sum_up q144 0, fun _ h => absurd h List.not_mem_nil⟩⟩⟩) (by decide +kernel)
noncomputable def S266 : Sum1 := (320, [cR 77, cI 0 0], [], [], [(77, 27, 27), (90, 0, 9), (91, 0, 7)], [([cR 77, cI 0 0], [], [], none)])
theorem q266 : sum_g w0 (pm_Rt pm_P 4) S266 := meth_okB (d := 3) (cuts := [(7, [([(0, cR 77), (1, cI 0 0), (2, cI 0 10)], [], [((77, 27), 0, 0)], [], [.inl 1, .inr (.inl 2, true), .inl 0])]), (28, [([(0, cR 77), (1, cI 0 0), (2, cI 0 8)], [], [((77, 27), 0, 255)], [], [.inl 0, .inr (.inl 2, true), .inl 0])])]) (spl := []) (K := [0, 1]) (N := 42) (sums := [S112, S265, S139]) aiX9_parks (abX9_parks w0) (by decide) (List.forall_mem_cons.mpr ⟨sum_up q112 2, List.forall_mem_cons.mpr ⟨sum_up q265 0, List.forall_mem_cons.mpr ⟨sum_up q139 2, fun _ h => absurd h List.not_mem_nil⟩⟩⟩) (by decide +kernel)
noncomputable def S267 : Sum1 := (302, [cR 77], [], [125], [(77, 0, 0), (77, 22, 23), (77, 27, 27), (89, 0, 7), (90, 0, 9), (91, 0, 7)], [([cR 77], [], [], some (.inl (cI (-2147483648) 2147483647)))])
theorem q267 : sum_g w0 (pm_Rt pm_P 5) S267 := meth_okB (d := 4) (cuts := [(28, [([(0, cR 77), (1, cI (-2147483648) 2147483647), (2, cI 0 8)], [], [((77, 0), 0, 0), ((77, 23), 0, 255), ((83, 0), 1, 2147483647)], [125], [.inl 0, .inr (.inl 2, true), .inl 1])]), (84, [([(0, cR 77), (1, cI (-2147483648) 2147483647), (2, cI 0 7), (3, cI (-1) 9), (4, cI (-2147483648) 2147483647), (5, cI (-2) 8)], [], [((77, 0), 0, 0), ((77, 23), 0, 255), ((83, 0), 1, 2147483647), ((84, 3), 1, 8)], [125], [.inl 0, .inr (.inl 2, true), .inl 0, .inr (.inl 5, false), .inl 0])])]) (spl := []) (K := [0]) (N := 30) (sums := [S160, S118, S266, S112, S140]) aiX9_likes (abX9_likes w0) (by decide) (List.forall_mem_cons.mpr ⟨sum_up q160 3, List.forall_mem_cons.mpr ⟨sum_up q118 2, List.forall_mem_cons.mpr ⟨sum_up q266 0, List.forall_mem_cons.mpr ⟨sum_up q112 3, List.forall_mem_cons.mpr ⟨sum_up q140 3, fun _ h => absurd h List.not_mem_nil⟩⟩⟩⟩⟩) (by decide +kernel)
noncomputable def S268 : Sum1 := (23, [cI 0 511, cI 1 9], [], [], [], [([cI 0 511, cI 1 9], [], [], some (.inl (cI 1 1))), ([cI 0 511, cI 1 9], [], [], some (.inl (cI 0 0)))])
theorem q268 : sum_g w0 (pm_Rt pm_P 1) S268 := meth_okB (d := 0) (cuts := []) (spl := []) (K := [0, 1]) (N := 12) (sums := []) aiX1_isFree (abX1_isFree w0) (by decide) (fun _ h => absurd h List.not_mem_nil) (by decide +kernel)
noncomputable def S269 : Sum1 := (21, [cI 1 9, cI 0 511, cI 1 9], [], [], [], [([cI 1 9, cI 0 511, cI 1 9], [], [], some (.inl (cI 1 9))), ([cI 1 9, cI 0 511, cI 1 9], [], [], some (.inl (cI 0 0)))])
theorem q269 : sum_g w0 (pm_Rt pm_P 2) S269 := meth_okB (d := 1) (cuts := [(2, [([(0, cI 1 9), (1, cI 0 511), (2, cI 1 9), (3, cI 1 10)], [], [], [], [.inl 0, .inr (.inl 3, true), .inl 0])])]) (spl := []) (K := [0, 1, 2]) (N := 10) (sums := [S268]) aiX1_firstFree (abX1_firstFree w0) (by decide) (List.forall_mem_cons.mpr ⟨sum_up q268 0, fun _ h => absurd h List.not_mem_nil⟩) (by decide +kernel)
noncomputable def S270 : Sum1 := (21, [cI 1 9, cI 0 511, cI 1 1], [], [], [], [([cI 1 9, cI 0 511, cI 1 1], [], [], some (.inl (cI 1 9))), ([cI 1 9, cI 0 511, cI 1 1], [], [], some (.inl (cI 0 0)))])
theorem q270 : sum_g w0 (pm_Rt pm_P 2) S270 := meth_okB (d := 1) (cuts := [(2, [([(0, cI 1 9), (1, cI 0 511), (2, cI 1 1), (3, cI 1 10)], [], [], [], [.inl 0, .inr (.inl 3, true), .inl 0])])]) (spl := []) (K := [0, 1, 2]) (N := 10) (sums := [S268]) aiX1_firstFree (abX1_firstFree w0) (by decide) (List.forall_mem_cons.mpr ⟨sum_up q268 0, fun _ h => absurd h List.not_mem_nil⟩) (by decide +kernel)
noncomputable def S271 : Sum1 := (25, [cI 3 3, cI 1 9, cI 0 511, cI 0 8], [], [], [], [([cI 3 3, cI 1 9, cI 0 511, cI 0 8], [], [], some (.inl (cI 0 0))), ([cI 3 3, cI 1 9, cI 0 511, cI 0 8], [], [], some (.inl (cI 0 9)))])
theorem q271 : sum_g w0 (pm_Rt pm_P 3) S271 := meth_okB (d := 2) (cuts := []) (spl := []) (K := [0, 1, 2, 3]) (N := 29) (sums := [S121, S270, S269]) aiX1_spotFor (abX1_spotFor w0) (by decide) (List.forall_mem_cons.mpr ⟨sum_up q121 1, List.forall_mem_cons.mpr ⟨sum_up q270 0, List.forall_mem_cons.mpr ⟨sum_up q269 0, fun _ h => absurd h List.not_mem_nil⟩⟩⟩) (by decide +kernel)
noncomputable def S272 : Sum1 := (9, [cI (-7) 9], [], [], [], [([cI (-7) 9], [], [], some (.inl (cI 0 9)))])
theorem q272 : sum_g w0 (pm_Rt pm_P 1) S272 := meth_okB (d := 0) (cuts := []) (spl := []) (K := [0]) (N := 7) (sums := []) aiJ9_abs_0f7a4 (abJ9_abs_0f7a4 w0) (by decide) (fun _ h => absurd h List.not_mem_nil) (by decide +kernel)
noncomputable def S273 : Sum1 := (19, [cR 62, cI 0 7, cI 0 8, cI 0 9], [], [], [(62, 1, 3), (63, 0, 7)], [([cR 62, cI 0 7, cI 0 8, cI 0 9], [], [], none)])
theorem q273 : sum_g w0 (pm_Rt pm_P 2) S273 := meth_okB (d := 1) (cuts := []) (spl := []) (K := [0, 1, 2, 3]) (N := 25) (sums := [S58, S272]) aiX1_come (abX1_come w0) (by decide) (List.forall_mem_cons.mpr ⟨sum_up q58 0, List.forall_mem_cons.mpr ⟨sum_up q272 0, fun _ h => absurd h List.not_mem_nil⟩⟩) (by decide +kernel)
noncomputable def S274 : Sum1 := (20, [cR 62, cR 17, cI 0 8, cI 0 255, cI 1 9, cI 3 3], [], [], [(62, 1, 3), (63, 0, 7)], [([cR 62, cR 17, cI 0 8, cI 0 255, cI 1 9, cI 3 3], [], [], none)])
theorem q274 : sum_g w0 (pm_Rt pm_P 4) S274 := meth_okB (d := 3) (cuts := [(18, [([(0, cR 62), (1, cR 17), (2, cI 0 8), (3, cI 0 255), (4, cI 1 9), (5, cI 3 3), (6, cI 0 8)], [], [], [], [.inl 0, .inr (.inl 6, true), .inl 0])])]) (spl := []) (K := [0, 1, 2, 3, 4, 5]) (N := 31) (sums := [S135, S273, S271]) aiX1_fill (abX1_fill w0) (by decide) (List.forall_mem_cons.mpr ⟨sum_up q135 2, List.forall_mem_cons.mpr ⟨sum_up q273 1, List.forall_mem_cons.mpr ⟨sum_up q271 0, fun _ h => absurd h List.not_mem_nil⟩⟩⟩) (by decide +kernel)
noncomputable def S275 : Sum1 := (155, [cR 0], [], [], [(62, 1, 3), (63, 0, 7)], [([cR 0], [], [], none)])
theorem q275 : sum_g w0 (pm_Rt pm_P 5) S275 := meth_okB (d := 4) (cuts := []) (spl := []) (K := [0]) (N := 19) (sums := [S120, S274]) aiX8_parkOnRing (abX8_parkOnRing w0) (by decide) (List.forall_mem_cons.mpr ⟨sum_up q120 3, List.forall_mem_cons.mpr ⟨sum_up q274 0, fun _ h => absurd h List.not_mem_nil⟩⟩) (by decide +kernel)
noncomputable def S276 : Sum1 := (170, [cR 0, cI (-2147483648) 2147483647], [], [], [(62, 1, 3), (63, 0, 7)], [([cR 0, cI (-2147483648) 2147483647], [], [], some (.inl (cI (-2) 9)))])
theorem q276 : sum_g w0 (pm_Rt pm_P 6) S276 := meth_okB (d := 5) (cuts := []) (spl := []) (K := [0, 1]) (N := 13) (sums := [S275, S109]) aiX8_ring (abX8_ring w0) (by decide) (List.forall_mem_cons.mpr ⟨sum_up q275 0, List.forall_mem_cons.mpr ⟨sum_up q109 4, fun _ h => absurd h List.not_mem_nil⟩⟩) (by decide +kernel)
noncomputable def S277 : Sum1 := (21, [cI 2 9, cI 0 511, cI 1 1], [], [], [], [([cI 2 9, cI 0 511, cI 1 1], [], [], some (.inl (cI 1 9))), ([cI 2 9, cI 0 511, cI 1 1], [], [], some (.inl (cI 0 0)))])
theorem q277 : sum_g w0 (pm_Rt pm_P 2) S277 := meth_okB (d := 1) (cuts := [(2, [([(0, cI 2 9), (1, cI 0 511), (2, cI 1 1), (3, cI 1 10)], [], [], [], [.inl 0, .inr (.inl 3, true), .inl 0])])]) (spl := []) (K := [0, 1, 2]) (N := 10) (sums := [S268]) aiX1_firstFree (abX1_firstFree w0) (by decide) (List.forall_mem_cons.mpr ⟨sum_up q268 0, fun _ h => absurd h List.not_mem_nil⟩) (by decide +kernel)
noncomputable def S278 : Sum1 := (120, [cR 0], [], [], [(62, 1, 3), (63, 0, 7)], [([cR 0], [], [], some (.inl (cI (-2) 9))), ([cR 0], [((15, 0), 1, 8)], [], some (.inl (cI 0 0)))])
theorem q278 : sum_g w0 (pm_Rt pm_P 6) S278 := meth_okB (d := 5) (cuts := []) (spl := []) (K := [0]) (N := 17) (sums := [S158, S275, S277]) aiX8_hole (abX8_hole w0) (by decide) (List.forall_mem_cons.mpr ⟨sum_up q158 4, List.forall_mem_cons.mpr ⟨sum_up q275 0, List.forall_mem_cons.mpr ⟨sum_up q277 3, fun _ h => absurd h List.not_mem_nil⟩⟩⟩) (by decide +kernel)
noncomputable def S279 : Sum1 := (179, [cR 0], [], [], [(62, 1, 3), (63, 0, 7)], [([cR 0], [], [], some (.inl (cI (-2) 511)))])
theorem q279 : sum_g w0 (pm_Rt pm_P 6) S279 := meth_okB (d := 5) (cuts := [(18, [([(0, cR 0), (1, cI 0 511), (2, cI 0 9)], [], [((15, 0), 1, 8)], [], [.inl 0, .inr (.inl 2, true), .inl 0])])]) (spl := []) (K := [0]) (N := 26) (sums := [S158, S275, S268]) aiX8_shifts (abX8_shifts w0) (by decide) (List.forall_mem_cons.mpr ⟨sum_up q158 4, List.forall_mem_cons.mpr ⟨sum_up q275 0, List.forall_mem_cons.mpr ⟨sum_up q268 4, fun _ h => absurd h List.not_mem_nil⟩⟩⟩) (by decide +kernel)
noncomputable def S280 : Sum1 := (178, [cR 0, cI (-2147483648) 2147483647, cI (-2147483648) 2147483647], [], [], [], [([cR 0, cI (-2147483648) 2147483647, cI (-2147483648) 2147483647], [], [], some (.inl (cI (-2) 15)))])
theorem q280 : sum_g w0 (pm_Rt pm_P 2) S280 := meth_okB (d := 1) (cuts := []) (spl := []) (K := [0, 1, 2]) (N := 34) (sums := [S109]) aiX8_shifted (abX8_shifted w0) (by decide) (List.forall_mem_cons.mpr ⟨sum_up q109 0, fun _ h => absurd h List.not_mem_nil⟩) (by decide +kernel)
noncomputable def S281 : Sum1 := (261, [cL (-2147483648) 2147483647, cL 0 0, cL 0 8], [], [], [], [([cL (-2147483648) 2147483647, cL 0 0, cL 0 8], [], [], some (.inl (cI 0 0))), ([cL 0 8, cL 0 0, cL 0 8], [], [], some (.inl (cI 1 1)))])
theorem q281 : sum_g w0 (pm_Rt pm_P 1) S281 := meth_okB (d := 0) (cuts := []) (spl := []) (K := [0, 2, 4]) (N := 12) (sums := []) aiX9_in (abX9_in w0) (by decide) (fun _ h => absurd h List.not_mem_nil) (by decide +kernel)
noncomputable def S282 : Sum1 := (346, [cR 77, cI 0 7, cI 0 8], [], [], [], [([cR 77, cI 0 7, cI 0 8], [], [], some (.inl (cI (-7) 9)))])
theorem q282 : sum_g w0 (pm_Rt pm_P 2) S282 := meth_okB (d := 1) (cuts := []) (spl := []) (K := [0, 1, 2]) (N := 17) (sums := [S140]) aiX9_shiftedOf (abX9_shiftedOf w0) (by decide) (List.forall_mem_cons.mpr ⟨sum_up q140 0, fun _ h => absurd h List.not_mem_nil⟩) (by decide +kernel)
noncomputable def S283 : Sum1 := (345, [cR 77, cI (-2147483648) 2147483647, cI (-2147483648) 2147483647], [], [125], [(77, 0, 0), (77, 22, 23), (89, 0, 7)], [([cR 77, cI (-2147483648) 2147483647, cI (-2147483648) 2147483647], [], [], some (.inl (cI (-7) 9)))])
theorem q283 : sum_g w0 (pm_Rt pm_P 3) S283 := meth_okB (d := 2) (cuts := []) (spl := []) (K := [0, 1, 2]) (N := 24) (sums := [S140, S118, S282, S114, S281]) aiX9_shifted (abX9_shifted w0) (by decide) (List.forall_mem_cons.mpr ⟨sum_up q140 1, List.forall_mem_cons.mpr ⟨sum_up q118 0, List.forall_mem_cons.mpr ⟨sum_up q282 0, List.forall_mem_cons.mpr ⟨sum_up q114 0, List.forall_mem_cons.mpr ⟨sum_up q281 1, fun _ h => absurd h List.not_mem_nil⟩⟩⟩⟩⟩) (by decide +kernel)
noncomputable def S284 : Sum1 := (113, [cR 0, cI 0 0], [], [], [], [([cR 0, cI 0 0], [], [], some (.inl (cI (-2) (-2))))])
theorem q284 : sum_g w0 (pm_Rt pm_P 2) S284 := meth_okB (d := 1) (cuts := []) (spl := []) (K := [0, 1]) (N := 9) (sums := [S255]) aiX8_hangTree (abX8_hangTree w0) (by decide) (List.forall_mem_cons.mpr ⟨sum_up q255 0, fun _ h => absurd h List.not_mem_nil⟩) (by decide +kernel)
noncomputable def S285 : Sum1 := (58, [cR 64, cI 0 8], [], [], [(64, 5, 6), (66, 0, 0)], [([cR 64, cI 0 8], [((64, 5), 1, 9), ((64, 6), 1, 1), ((66, 0), 0, 0)], [], none)])
theorem q285 : sum_g w0 (pm_Rt pm_P 1) S285 := meth_okB (d := 0) (cuts := []) (spl := []) (K := [0, 1]) (N := 15) (sums := []) aiX7_begin (abX7_begin w0) (by decide) (fun _ h => absurd h List.not_mem_nil) (by decide +kernel)
noncomputable def S286 : Sum1 := (59, [cR 64, cI 1 8, cI 0 8], [], [], [(64, 6, 6), (65, 1, 8), (66, 0, 8)], [([cR 64, cI 1 8, cI 0 8], [], [], none)])
theorem q286 : sum_g w0 (pm_Rt pm_P 1) S286 := meth_okB (d := 0) (cuts := []) (spl := []) (K := [0, 1, 2]) (N := 24) (sums := []) aiX7_bring (abX7_bring w0) (by decide) (fun _ h => absurd h List.not_mem_nil) (by decide +kernel)
noncomputable def S287 : Sum1 := (63, [cR 64, cR 17, cI 0 8], [], [], [(64, 5, 6), (65, 1, 8), (66, 0, 8)], [([cR 64, cR 17, cI 0 8], [((64, 5), 1, 9)], [], none)])
theorem q287 : sum_g w0 (pm_Rt pm_P 2) S287 := meth_okB (d := 1) (cuts := [(7, [([(0, cR 64), (1, cR 17), (2, cI 0 8), (3, cI 1 9)], [], [((64, 5), 1, 9)], [], [.inl 0, .inr (.inl 3, true), .inl 1])]), (25, [([(0, cR 64), (1, cR 17), (2, cI 1 8), (3, cI 1 8), (4, cI 0 8), (5, cI 0 8)], [], [((64, 5), 1, 9)], [], [.inl 0, .inr (.inl 3, true), .inl 0, .inr (.inl 5, true), .inl 0])])]) (spl := []) (K := [0, 1, 2]) (N := 17) (sums := [S285, S286]) aiX7_hang (abX7_hang w0) (by decide) (List.forall_mem_cons.mpr ⟨sum_up q285 0, List.forall_mem_cons.mpr ⟨sum_up q286 0, fun _ h => absurd h List.not_mem_nil⟩⟩) (by decide +kernel)
noncomputable def S288 : Sum1 := (113, [cR 0, cI 1 1], [], [], [(64, 5, 6), (65, 1, 8), (66, 0, 8)], [([cR 0, cI 1 1], [], [], some (.inl (cI (-1) (-1)))), ([cR 0, cI 1 1], [((64, 5), 1, 9)], [], some (.inl (cI 0 0)))])
theorem q288 : sum_g w0 (pm_Rt pm_P 4) S288 := meth_okB (d := 3) (cuts := []) (spl := []) (K := [0, 1]) (N := 18) (sums := [S256, S287]) aiX8_hangTree (abX8_hangTree w0) (by decide) (List.forall_mem_cons.mpr ⟨sum_up q256 0, List.forall_mem_cons.mpr ⟨sum_up q287 1, fun _ h => absurd h List.not_mem_nil⟩⟩) (by decide +kernel)
noncomputable def S289 : Sum1 := (152, [cR 0, cI (-2147483648) 2147483647], [], [], [(64, 5, 6), (65, 1, 8), (66, 0, 8)], [([cR 0, cI (-2147483648) 2147483647], [], [], some (.inl (cI (-2) 8)))])
theorem q289 : sum_g w0 (pm_Rt pm_P 5) S289 := meth_okB (d := 4) (cuts := []) (spl := []) (K := [0, 1]) (N := 17) (sums := [S284, S288, S109]) aiX8_parent (abX8_parent w0) (by decide) (List.forall_mem_cons.mpr ⟨sum_up q284 2, List.forall_mem_cons.mpr ⟨sum_up q288 0, List.forall_mem_cons.mpr ⟨sum_up q109 3, fun _ h => absurd h List.not_mem_nil⟩⟩⟩) (by decide +kernel)
noncomputable def S290 : Sum1 := (69, [cR 64, cI 1 8], [], [], [], [([cR 64, cI 1 8], [], [], some (.inl (cI 0 9)))])
theorem q290 : sum_g w0 (pm_Rt pm_P 1) S290 := meth_okB (d := 0) (cuts := [(4, [([(0, cR 64), (1, cI 1 8), (2, cI 0 9), (3, cI 0 8)], [], [], [], [.inl 0, .inr (.inl 2, true), .inl 0])])]) (spl := []) (K := [0, 1]) (N := 14) (sums := []) aiX7_limbsTo (abX7_limbsTo w0) (by decide) (fun _ h => absurd h List.not_mem_nil) (by decide +kernel)
noncomputable def S291 : Sum1 := (98, [cR 0, cI (-2147483648) 2147483647], [], [], [(64, 5, 6), (65, 1, 8), (66, 0, 8)], [([cR 0, cI (-2147483648) 2147483647], [], [], some (.inl (cI (-2) 9)))])
theorem q291 : sum_g w0 (pm_Rt pm_P 5) S291 := meth_okB (d := 4) (cuts := []) (spl := []) (K := [0, 1]) (N := 16) (sums := [S284, S288, S290, S109]) aiX8_depth (abX8_depth w0) (by decide) (List.forall_mem_cons.mpr ⟨sum_up q284 2, List.forall_mem_cons.mpr ⟨sum_up q288 0, List.forall_mem_cons.mpr ⟨sum_up q290 3, List.forall_mem_cons.mpr ⟨sum_up q109 3, fun _ h => absurd h List.not_mem_nil⟩⟩⟩⟩) (by decide +kernel)
noncomputable def S292 : Sum1 := (65, [cR 64, cI 0 8], [], [], [], [([cR 64, cI 0 8], [], [], some (.inl (cI 0 255)))])
theorem q292 : sum_g w0 (pm_Rt pm_P 1) S292 := meth_okB (d := 0) (cuts := [(4, [([(0, cR 64), (1, cI 0 8), (2, cI 0 255), (3, cI 1 9)], [], [], [], [.inl 0, .inr (.inl 3, true), .inl 0])])]) (spl := []) (K := [0, 1]) (N := 21) (sums := []) aiX7_hangingFrom (abX7_hangingFrom w0) (by decide) (fun _ h => absurd h List.not_mem_nil) (by decide +kernel)
noncomputable def S293 : Sum1 := (132, [cR 0, cI (-2147483648) 2147483647], [], [], [(64, 5, 6), (65, 1, 8), (66, 0, 8)], [([cR 0, cI (-2147483648) 2147483647], [], [], some (.inl (cI (-2) 255)))])
theorem q293 : sum_g w0 (pm_Rt pm_P 5) S293 := meth_okB (d := 4) (cuts := []) (spl := []) (K := [0, 1]) (N := 23) (sums := [S158, S284, S288, S292]) aiX8_kids (abX8_kids w0) (by decide) (List.forall_mem_cons.mpr ⟨sum_up q158 3, List.forall_mem_cons.mpr ⟨sum_up q284 2, List.forall_mem_cons.mpr ⟨sum_up q288 0, List.forall_mem_cons.mpr ⟨sum_up q292 3, fun _ h => absurd h List.not_mem_nil⟩⟩⟩⟩) (by decide +kernel)
noncomputable def S295 : Sum1 := (285, [cR 77, cI 0 8, cI 0 8], [], [], [], [([cR 77, cI 0 8, cI 0 8], [], [], some (.inl (cI 0 255)))])
theorem q295 : sum_g w0 (pm_Rt pm_P 1) S295 := meth_okB (d := 0) (cuts := [(5, [([(0, cR 77), (1, cI 0 8), (2, cI 0 8), (3, cI 0 255), (4, cI 1 9)], [], [], [], [.inl 0, .inr (.inl 4, true), .inl 0])])]) (spl := []) (K := [0, 1, 2]) (N := 21) (sums := []) aiX9_kidsOf (abX9_kidsOf w0) (by decide) (fun _ h => absurd h List.not_mem_nil) (by decide +kernel)
noncomputable def S296 : Sum1 := (163, [cR 0, cI (-2147483648) 2147483647], [], [], [(64, 5, 6), (65, 1, 8), (66, 0, 8)], [([cR 0, cI (-2147483648) 2147483647], [], [], some (.inl (cI (-2) 8)))])
theorem q296 : sum_g w0 (pm_Rt pm_P 5) S296 := meth_okB (d := 4) (cuts := []) (spl := []) (K := [0, 1]) (N := 24) (sums := [S158, S284, S288]) aiX8_queue (abX8_queue w0) (by decide) (List.forall_mem_cons.mpr ⟨sum_up q158 3, List.forall_mem_cons.mpr ⟨sum_up q284 2, List.forall_mem_cons.mpr ⟨sum_up q288 0, fun _ h => absurd h List.not_mem_nil⟩⟩⟩) (by decide +kernel)
noncomputable def S297 : Sum1 := (65, [cR 64, cI 1 8], [], [], [], [([cR 64, cI 1 8], [], [], some (.inl (cI 0 255)))])
theorem q297 : sum_g w0 (pm_Rt pm_P 1) S297 := meth_okB (d := 0) (cuts := [(4, [([(0, cR 64), (1, cI 1 8), (2, cI 0 255), (3, cI 1 9)], [], [], [], [.inl 0, .inr (.inl 3, true), .inl 0])])]) (spl := []) (K := [0, 1]) (N := 21) (sums := []) aiX7_hangingFrom (abX7_hangingFrom w0) (by decide) (fun _ h => absurd h List.not_mem_nil) (by decide +kernel)
noncomputable def S298 : Sum1 := (139, [cR 0], [], [], [(64, 5, 6), (65, 1, 8), (66, 0, 8)], [([cR 0], [], [], some (.inl (cI (-2) 255)))])
theorem q298 : sum_g w0 (pm_Rt pm_P 5) S298 := meth_okB (d := 4) (cuts := [(19, [([(0, cR 0), (1, cI 0 0), (2, cI 0 255), (3, cI 0 8)], [], [((15, 0), 1, 8), ((64, 5), 1, 9)], [], [.inl 0, .inr (.inl 3, true), .inl 0])])]) (spl := []) (K := [0]) (N := 21) (sums := [S158, S284, S288, S297]) aiX8_leaves (abX8_leaves w0) (by decide) (List.forall_mem_cons.mpr ⟨sum_up q158 3, List.forall_mem_cons.mpr ⟨sum_up q284 2, List.forall_mem_cons.mpr ⟨sum_up q288 0, List.forall_mem_cons.mpr ⟨sum_up q297 3, fun _ h => absurd h List.not_mem_nil⟩⟩⟩⟩) (by decide +kernel)
end
section
/-! what is known of the methods, checked (written by emit.py) -/
noncomputable def S300 : Sum1 := (73, [cR 64], [], [], [], [([cR 64], [], [], some (.inl (cI (-2147483648) 2147483647)))])
theorem q300 : sum_g w0 (pm_Rt pm_P 1) S300 := meth_okB (d := 0) (cuts := [(4, [([(0, cR 64), (1, cI (-2147483648) 2147483647), (2, cI 1 9)], [], [], [], [.inl 0, .inr (.inl 2, true), .inl 1])]), (22, [([(0, cR 64), (1, cI (-2147483648) 2147483647), (2, cI 1 8), (3, cI 0 8), (4, cI 0 9)], [], [((64, 5), 2, 9)], [], [.inl 0, .inr (.inl 2, true), .inl 0, .inr (.inl 4, true), .inl 0])])]) (spl := []) (K := [0]) (N := 18) (sums := []) aiX7_turnedPairs (abX7_turnedPairs w0) (by decide) (fun _ h => absurd h List.not_mem_nil) (by decide +kernel)
noncomputable def S301 : Sum1 := (123, [cR 0], [], [], [(64, 5, 6), (65, 1, 8), (66, 0, 8)], [([cR 0], [], [], some (.inl (cI (-2147483648) 2147483647)))])
theorem q301 : sum_g w0 (pm_Rt pm_P 5) S301 := meth_okB (d := 4) (cuts := []) (spl := []) (K := [0]) (N := 12) (sums := [S158, S284, S288, S300]) aiX8_inversions (abX8_inversions w0) (by decide) (List.forall_mem_cons.mpr ⟨sum_up q158 3, List.forall_mem_cons.mpr ⟨sum_up q284 2, List.forall_mem_cons.mpr ⟨sum_up q288 0, List.forall_mem_cons.mpr ⟨sum_up q300 3, fun _ h => absurd h List.not_mem_nil⟩⟩⟩⟩) (by decide +kernel)
noncomputable def S302 : Sum1 := (60, [cR 64], [], [], [(68, 0, 8)], [([cR 64], [], [], none)])
theorem q302 : sum_g w0 (pm_Rt pm_P 1) S302 := meth_okB (d := 0) (cuts := [(2, [([(0, cR 64), (1, cI 0 9)], [], [], [], [.inl 0, .inr (.inl 1, true), .inl 0])])]) (spl := []) (K := [0]) (N := 12) (sums := []) aiX7_clearLimbs (abX7_clearLimbs w0) (by decide) (fun _ h => absurd h List.not_mem_nil) (by decide +kernel)
noncomputable def S303 : Sum1 := (57, [cR 64, cI 1 8, cI 0 8], [], [], [(68, 0, 8)], [([cR 64, cI 1 8, cI 0 8], [], [], none)])
theorem q303 : sum_g w0 (pm_Rt pm_P 1) S303 := meth_okB (d := 0) (cuts := []) (spl := []) (K := [0, 1, 2]) (N := 22) (sums := []) aiX7_addLimb (abX7_addLimb w0) (by decide) (fun _ h => absurd h List.not_mem_nil) (by decide +kernel)
noncomputable def S304 : Sum1 := (68, [cR 64], [], [], [], [([cR 64], [((64, 5), 1, 9)], [], some (.inl (cI 0 8))), ([cR 64], [], [], some (.inl (cI 0 0)))])
theorem q304 : sum_g w0 (pm_Rt pm_P 2) S304 := meth_okB (d := 1) (cuts := [(2, [([(0, cR 64), (1, cI 0 9)], [], [], [], [.inl 0, .inr (.inl 1, true), .inl 0])])]) (spl := []) (K := [0]) (N := 14) (sums := [S176]) aiX7_leastWithOneLimb (abX7_leastWithOneLimb w0) (by decide) (List.forall_mem_cons.mpr ⟨sum_up q176 0, fun _ h => absurd h List.not_mem_nil⟩) (by decide +kernel)
noncomputable def S305 : Sum1 := (70, [cI 0 511], [], [], [], [([cI 0 511], [], [], some (.inl (cI 0 8))), ([cI 0 511], [], [], some (.inl (cI 0 0)))])
theorem q305 : sum_g w0 (pm_Rt pm_P 1) S305 := meth_okB (d := 0) (cuts := [(2, [([(0, cI 0 511), (1, cI 0 9)], [], [], [], [.inl 0, .inr (.inl 1, true), .inl 0])])]) (spl := []) (K := [0]) (N := 12) (sums := []) aiX7_lowestBit (abX7_lowestBit w0) (by decide) (fun _ h => absurd h List.not_mem_nil) (by decide +kernel)
noncomputable def S306 : Sum1 := (61, [cR 64, cI 0 6], [], [], [(68, 0, 8)], [([cR 64, cI 0 6], [], [], some (.inl (cI (-1) 8)))])
theorem q306 : sum_g w0 (pm_Rt pm_P 3) S306 := meth_okB (d := 2) (cuts := [(6, [([(0, cR 64), (1, cI 0 6), (2, cI 1 9)], [], [], [], [.inl 1, .inr (.inl 2, true), .inl 0])]), (35, [([(0, cR 64), (1, cI 0 6), (2, cI (-1) 8), (3, cI 0 7)], [], [((64, 5), 0, 9)], [], [.inl 0, .inr (.inl 3, true), .inl 0])])]) (spl := []) (K := [0, 1]) (N := 32) (sums := [S302, S304, S303, S305]) aiX7_codeNumber (abX7_codeNumber w0) (by decide) (List.forall_mem_cons.mpr ⟨sum_up q302 1, List.forall_mem_cons.mpr ⟨sum_up q304 0, List.forall_mem_cons.mpr ⟨sum_up q303 1, List.forall_mem_cons.mpr ⟨sum_up q305 1, fun _ h => absurd h List.not_mem_nil⟩⟩⟩⟩) (by decide +kernel)
noncomputable def S307 : Sum1 := (92, [cR 0, cI (-2147483648) 2147483647], [], [], [(64, 5, 6), (65, 1, 8), (66, 0, 8), (68, 0, 8)], [([cR 0, cI (-2147483648) 2147483647], [], [], some (.inl (cI (-2) 8)))])
theorem q307 : sum_g w0 (pm_Rt pm_P 5) S307 := meth_okB (d := 4) (cuts := []) (spl := []) (K := [0, 1]) (N := 26) (sums := [S158, S284, S288, S306]) aiX8_code (abX8_code w0) (by decide) (List.forall_mem_cons.mpr ⟨sum_up q158 3, List.forall_mem_cons.mpr ⟨sum_up q284 2, List.forall_mem_cons.mpr ⟨sum_up q288 0, List.forall_mem_cons.mpr ⟨sum_up q306 1, fun _ h => absurd h List.not_mem_nil⟩⟩⟩⟩) (by decide +kernel)
noncomputable def S308 : Sum1 := (175, [cR 0, cI 0 0], [], [], [], [([cR 0, cI 0 0], [], [], some (.inl (cI (-2) (-2))))])
theorem q308 : sum_g w0 (pm_Rt pm_P 2) S308 := meth_okB (d := 1) (cuts := []) (spl := []) (K := [0, 1]) (N := 9) (sums := [S255]) aiX8_searchTree (abX8_searchTree w0) (by decide) (List.forall_mem_cons.mpr ⟨sum_up q255 0, fun _ h => absurd h List.not_mem_nil⟩) (by decide +kernel)
noncomputable def S309 : Sum1 := (74, [cR 64, cI 0 0], [], [], [(64, 6, 6), (65, 1, 8), (66, 0, 8), (67, 1, 8), (69, 0, 8)], [([cR 64, cI 0 0], [], [], none)])
theorem q309 : sum_g w0 (pm_Rt pm_P 2) S309 := meth_okB (d := 1) (cuts := [(4, [([(0, cR 64), (1, cI 0 0), (2, cI 0 511), (3, cI 0 9)], [], [], [], [.inl 1, .inr (.inl 3, true), .inl 0])]), (52, [([(0, cR 64), (1, cI 0 0), (2, cI 0 511), (3, cI 0 8), (4, cI 0 81), (5, cI 0 81)], [], [((64, 5), 0, 9)], [], [.inl 0, .inr (.inl 5, true), .inl 0])])]) (spl := []) (K := [0, 1]) (N := 48) (sums := [S286]) aiX7_walk (abX7_walk w0) (by decide) (List.forall_mem_cons.mpr ⟨sum_up q286 0, fun _ h => absurd h List.not_mem_nil⟩) (by decide +kernel)
noncomputable def S310 : Sum1 := (72, [cR 64, cR 17, cI 0 8], [], [], [(64, 5, 6), (65, 1, 8), (66, 0, 8), (67, 1, 8), (69, 0, 8)], [([cR 64, cR 17, cI 0 8], [((64, 5), 1, 9)], [], none)])
theorem q310 : sum_g w0 (pm_Rt pm_P 3) S310 := meth_okB (d := 2) (cuts := [(7, [([(0, cR 64), (1, cR 17), (2, cI 0 8), (3, cI 1 9)], [], [((64, 5), 1, 9), ((64, 6), 1, 1), ((66, 0), 0, 0)], [], [.inl 0, .inr (.inl 3, true), .inl 0])])]) (spl := []) (K := [0, 1, 2]) (N := 18) (sums := [S309, S285]) aiX7_search (abX7_search w0) (by decide) (List.forall_mem_cons.mpr ⟨sum_up q309 0, List.forall_mem_cons.mpr ⟨sum_up q285 1, fun _ h => absurd h List.not_mem_nil⟩⟩) (by decide +kernel)
noncomputable def S311 : Sum1 := (175, [cR 0, cI 1 1], [], [], [(64, 5, 6), (65, 1, 8), (66, 0, 8), (67, 1, 8), (69, 0, 8)], [([cR 0, cI 1 1], [], [], some (.inl (cI (-1) (-1)))), ([cR 0, cI 1 1], [((64, 5), 1, 9)], [], some (.inl (cI 0 0)))])
theorem q311 : sum_g w0 (pm_Rt pm_P 4) S311 := meth_okB (d := 3) (cuts := []) (spl := []) (K := [0, 1]) (N := 18) (sums := [S256, S310]) aiX8_searchTree (abX8_searchTree w0) (by decide) (List.forall_mem_cons.mpr ⟨sum_up q256 0, List.forall_mem_cons.mpr ⟨sum_up q310 0, fun _ h => absurd h List.not_mem_nil⟩⟩) (by decide +kernel)
noncomputable def S312 : Sum1 := (87, [cR 0, cI (-2147483648) 2147483647], [], [], [(64, 5, 6), (65, 1, 8), (66, 0, 8), (67, 1, 8), (69, 0, 8)], [([cR 0, cI (-2147483648) 2147483647], [], [], some (.inl (cI (-2) 8)))])
theorem q312 : sum_g w0 (pm_Rt pm_P 5) S312 := meth_okB (d := 4) (cuts := []) (spl := []) (K := [0, 1]) (N := 17) (sums := [S308, S311, S109]) aiX8_burnt (abX8_burnt w0) (by decide) (List.forall_mem_cons.mpr ⟨sum_up q308 2, List.forall_mem_cons.mpr ⟨sum_up q311 0, List.forall_mem_cons.mpr ⟨sum_up q109 3, fun _ h => absurd h List.not_mem_nil⟩⟩⟩) (by decide +kernel)
noncomputable def S313 : Sum1 := (194, [cR 0], [], [], [(64, 5, 6), (65, 1, 8), (66, 0, 8), (67, 1, 8), (69, 0, 8)], [([cR 0], [], [], some (.inl (cI (-2147483648) 2147483647)))])
theorem q313 : sum_g w0 (pm_Rt pm_P 5) S313 := meth_okB (d := 4) (cuts := []) (spl := []) (K := [0]) (N := 12) (sums := [S158, S308, S311, S300]) aiX8_turned (abX8_turned w0) (by decide) (List.forall_mem_cons.mpr ⟨sum_up q158 3, List.forall_mem_cons.mpr ⟨sum_up q308 2, List.forall_mem_cons.mpr ⟨sum_up q311 0, List.forall_mem_cons.mpr ⟨sum_up q300 3, fun _ h => absurd h List.not_mem_nil⟩⟩⟩⟩) (by decide +kernel)
noncomputable def S314 : Sum1 := (197, [cR 0, cI (-2147483648) 2147483647], [], [], [(64, 5, 6), (65, 1, 8), (66, 0, 8), (67, 1, 8), (69, 0, 8)], [([cR 0, cI (-2147483648) 2147483647], [], [], some (.inl (cI (-2) 8)))])
theorem q314 : sum_g w0 (pm_Rt pm_P 5) S314 := meth_okB (d := 4) (cuts := []) (spl := []) (K := [0, 1]) (N := 24) (sums := [S158, S308, S311]) aiX8_visit (abX8_visit w0) (by decide) (List.forall_mem_cons.mpr ⟨sum_up q158 3, List.forall_mem_cons.mpr ⟨sum_up q308 2, List.forall_mem_cons.mpr ⟨sum_up q311 0, fun _ h => absurd h List.not_mem_nil⟩⟩⟩) (by decide +kernel)
noncomputable def S315 : Sum1 := (130, [cR 0, cI (-2147483648) 2147483647], [], [], [], [([cR 0, cI 0 7], [((15, 0), 1, 8)], [], some (.inl (cI 1 1))), ([cR 0, cI (-2147483648) 2147483647], [], [], some (.inl (cI 0 0)))])
theorem q315 : sum_g w0 (pm_Rt pm_P 1) S315 := meth_okB (d := 0) (cuts := []) (spl := []) (K := [0, 1]) (N := 11) (sums := []) aiX8_isTreeCar (abX8_isTreeCar w0) (by decide) (fun _ h => absurd h List.not_mem_nil) (by decide +kernel)
noncomputable def S316 : Sum1 := (127, [cI (-2147483648) 2147483647], [], [], [], [([cI 0 3], [], [], some (.inl (cI 1 1))), ([cI (-2147483648) 2147483647], [], [], some (.inl (cI 0 0)))])
theorem q316 : sum_g w0 (pm_Rt pm_P 1) S316 := meth_okB (d := 0) (cuts := []) (spl := []) (K := [0]) (N := 9) (sums := []) aiX8_isSlot (abX8_isSlot w0) (by decide) (fun _ h => absurd h List.not_mem_nil) (by decide +kernel)
noncomputable def ah2_X8_readCode : List (Nat × AR w0) := [(0, .inl (R_il 1 1)), (1, .inr (.inl (127, 1, none, 0, 0))), (4, .inl (R_if1_eq 11 7)), (7, .inl (R_il 2 8)), (8, .inl (R_if1_ne 14 11)), (11, .inl (R_const (.int (-2)) 13)), (13, .inr (.inr 1)), (14, .inl (R_al 0 15)), (15, .inl (R_getf 8 5 18)), (18, .inl (R_il 1 19)), (19, .inl (R_aald 5 20)), (20, .inl (R_as 3 21)), (21, .inl (R_al 3 22)), (22, .inl (R_getf 4 1 25)), (25, .inl (R_if1_ne 31 28)), (28, .inl (R_const (.int (-6)) 30)), (30, .inr (.inr 1)), (31, .inl (R_al 3 32)), (32, .inl (R_getf 4 3 35)), (35, .inl (R_al 0 36)), (36, .inl (R_getf 8 2 39)), (39, .inl (R_getf 5 0 42)), (42, .inl (R_const (.int 1) 43)), (43, .inl (R_sub 44)), (44, .inl (R_if2_eq 50 47)), (47, .inl (R_const (.int (-2)) 49)), (49, .inr (.inr 1)), (50, .inl (R_const (.int 0) 51)), (51, .inl (R_h (R_h (R_h (R_h (R_is 4 53) (l_nil 4) (l_nil_ok 4)) (l_nil 5) (l_nil_ok 5)) (l_nil 6) (l_nil_ok 6)) (l_nil 7) (l_nil_ok 7))), (53, .inl (R_il 4 55)), (55, .inl (R_al 3 56)), (56, .inl (R_getf 4 3 59)), (59, .inl (R_if2_ge 102 62)), (62, .inl (R_al 3 63)), (63, .inl (R_getf 4 0 66)), (66, .inl (R_il 4 68)), (68, .inl (R_lalm 69)), (69, .inl (R_const (.long 0) 70)), (70, .inl (R_lcmp 71)), (71, .inl (R_if1_lt 93 74)), (74, .inl (R_al 3 75)), (75, .inl (R_getf 4 0 78)), (78, .inl (R_il 4 80)), (80, .inl (R_lalm 81)), (81, .inl (R_al 0 82)), (82, .inl (R_getf 8 2 85)), (85, .inl (R_getf 5 0 88)), (88, .inl (R_i2l 89)), (89, .inl (R_lcmp 90)), (90, .inl (R_if1_le 96 93)), (93, .inl (R_const (.int (-2)) 95)), (95, .inr (.inr 1)), (96, .inl (R_h (R_h (R_h (R_h (R_inc 4 1 99) (l_step 4) (l_step_ok 4)) (l_step 5) (l_step_ok 5)) (l_step 6) (l_step_ok 6)) (l_step 7) (l_step_ok 7))), (99, .inl (R_goto 53)), (102, .inl (R_h (R_h (R_h (R_h (R_al 0 103) (l_dint 4) (l_dint_ok 4)) (l_dint 5) (l_dint_ok 5)) (l_dint 6) (l_dint_ok 6)) (l_dint 7) (l_dint_ok 7))), (103, .inl (R_getf 8 7 106)), (106, .inl (R_al 3 107)), (107, .inl (R_getf 4 0 110)), (110, .inl (R_al 0 111)), (111, .inl (R_getf 8 2 114)), (114, .inl (R_getf 5 0 117)), (117, .inr (.inl (62, 3, some 7, 0, 0))), (120, .inl (R_const (.int 0) 121)), (121, .inr (.inr 1))]
set_option maxRecDepth 20000 in
theorem bah2_X8_readCode : iX8_readCode.2.2.2.2.2.2.2 = ar_tab ah2_X8_readCode := rfl
noncomputable def S317 : Sum1 := (165, [cR 0, cI (-2147483648) 2147483647, cI 0 0], [], [], [], [([cR 0, cI (-2147483648) 2147483647, cI 0 0], [], [], some (.inl (cI (-2) (-2))))])
theorem q317 : sum_g w0 (pm_Rt pm_P 2) S317 := meth_okB (d := 1) (cuts := []) (spl := [39]) (K := [0, 1, 2]) (N := 8) (sums := [S316]) aiX8_readCode bah2_X8_readCode (by decide) (List.forall_mem_cons.mpr ⟨sum_up q316 0, fun _ h => absurd h List.not_mem_nil⟩) (by decide +kernel)
noncomputable def S322 : Sum1 := (64, [cR 64], [], [], [(64, 6, 6), (65, 1, 8), (66, 0, 8)], [([cR 64], [], [], none)])
theorem q322 : sum_g w0 (pm_Rt pm_P 2) S322 := meth_okB (d := 1) (cuts := [(11, [([(0, cR 64), (1, cI (-2147483648) 2147483647), (2, cI 0 9)], [], [((64, 5), 0, 9)], [], [.inl 0, .inr (.inl 2, true), .inl 1])]), (29, [([(0, cR 64), (1, cI (-2147483648) 2147483647), (2, cI 0 8), (3, cI 0 8), (4, cI 1 9)], [], [((64, 5), 1, 9)], [], [.inl 0, .inr (.inl 2, true), .inl 0, .inr (.inl 4, true), .inl 0])])]) (spl := []) (K := [0]) (N := 30) (sums := [S286]) aiX7_hangByLimbs (abX7_hangByLimbs w0) (by decide) (List.forall_mem_cons.mpr ⟨sum_up q286 0, fun _ h => absurd h List.not_mem_nil⟩) (by decide +kernel)
noncomputable def S331 : Sum1 := (57, [cR 64, cI 0 8, cI 0 8], [], [], [(68, 0, 8)], [([cR 64, cI 0 8, cI 0 8], [], [], none)])
theorem q331 : sum_g w0 (pm_Rt pm_P 1) S331 := meth_okB (d := 0) (cuts := []) (spl := []) (K := [0, 1, 2]) (N := 22) (sums := []) aiX7_addLimb (abX7_addLimb w0) (by decide) (fun _ h => absurd h List.not_mem_nil) (by decide +kernel)
end
section
/-! what is known of the methods, checked (written by emit.py) -/
end
section
/-! what is known of the methods, checked (written by emit.py) -/
end
section
/-! what is known of the methods, checked (written by emit.py) -/
noncomputable def S483 : Sum1 := (165, [cR 0, cI (-2147483648) 2147483647, cI 1 1], [], [], [(64, 5, 6), (65, 1, 8), (66, 0, 8), (68, 0, 8)], [([cR 0, cI (-2147483648) 2147483647, cI 1 1], [], [], some (.inl (cI (-6) (-2)))), ([cR 0, cI 0 3, cI 1 1], [((15, 0), 1, 8), ((64, 5), 2, 9)], [], some (.inl (cI 0 0)))])
/-! by hand: decode and readCode of the class (S483 in place of the executor's check of 159 summaries; wants q285, q302, q305, q322, q331) -/
noncomputable def RF7 : List Rng := [(64, 5, 6), (65, 1, 8), (66, 0, 8), (68, 0, 8)]
section RDC
variable {h : pm_H} {d : Nat} {x : Int32}
theorem sp_begin7 {p : Nat} (hh : HH h) (p8 : p ≤ 8) : Sp (d + 1) 58 h [.ref 64, .int (nJ p)] (fun h' r => r = none ∧ HH h' ∧ fr_g RF7 h h' ∧ gi h' 64 5 = nJ (p + 1)) := by
  refine Sp_of aiX7_begin rfl rfl rfl ?_
  have L0 : pm_get (lv_args 0 [.ref 64, .int (nJ p)]) 0 = some (.ref 64) := rfl
  have L1 : pm_get (lv_args 0 [.ref 64, .int (nJ p)]) 1 = some (.int (nJ p)) := rfl
  generalize lv_args 0 [.ref 64, .int (nJ p)] = lv at L0 L1 ⊢
  refine E_al rfl L0 ?_
  refine E_il rfl L1 ?_
  refine E_ci 1 rfl ci1 ?_
  refine E_bin rfl (nJ_add _ _) ?_
  refine E_opf (q := (0, 9)) rfl hh rfl rfl ?_
  have h1 : HH (pt h 64 5 (nJ (p + 1))) := HH_ptn hh rfl (by first | decide | with_reducible assumption | omega) (by first | decide | with_reducible assumption | omega) (by first | decide | with_reducible assumption | omega)
  refine E_al rfl L0 ?_
  refine E_ci 1 rfl ci1 ?_
  refine E_opf (q := (0, 9)) rfl h1 rfl rfl ?_
  have h2 : HH (pt (pt h 64 5 (nJ (p + 1))) 64 6 (nJ 1)) := HH_ptn h1 rfl (by first | decide | with_reducible assumption | omega) (by first | decide | with_reducible assumption | omega) (by first | decide | with_reducible assumption | omega)
  refine E_al rfl L0 ?_
  refine E_ogr (q := 66) rfl h2 rfl rfl ?_
  refine E_ci 0 rfl ci0 ?_
  refine E_ci 0 rfl ci0 ?_
  refine E_ias rfl h2 rfl (by first | decide | with_reducible assumption | omega) (by decide) ?_
  refine E_ret rfl ⟨rfl, HH_ptn h2 (bd_u rfl (by first | decide | with_reducible assumption | omega)) (by first | decide | with_reducible assumption | omega) (by first | decide | with_reducible assumption | omega) (by first | decide | with_reducible assumption | omega), fr_ptr (l := 0) (u := 8) rfl (by first | decide | with_reducible assumption | omega) (by first | decide | with_reducible assumption | omega) (fr_ptr (l := 5) (u := 6) rfl (by first | decide | with_reducible assumption | omega) (by first | decide | with_reducible assumption | omega) (fr_ptr (l := 5) (u := 6) rfl (by first | decide | with_reducible assumption | omega) (by first | decide | with_reducible assumption | omega) (fr_rf _ _))), ?_⟩
  rw [gi_ne (by first | exact gxx rfl | omega), gi_ne (by first | exact gxx rfl | omega)]
  exact gi_pt hh (q := (0, 9)) rfl (by rw [nJ_toInt (by first | decide | with_reducible assumption | omega)]; show (0 : Int) ≤ _; omega) (by rw [nJ_toInt (by first | decide | with_reducible assumption | omega)]; show _ ≤ (9 : Int); omega)
theorem sp_low7 (hh : HH h) (x0 : 0 ≤ x.toInt) (x5 : x.toInt ≤ 511) : Sp 1 70 h [.int x] (fun h' r => h' = h ∧ ∃ e, e ≤ 8 ∧ r = some (.int (nJ e))) := by
  refine Sp_of aiX7_lowestBit rfl rfl rfl ?_
  have L0 : pm_get (lv_args 0 [.int x]) 0 = some (.int x) := rfl
  generalize lv_args 0 [.int x] = lv at L0 ⊢
  refine E_ci 0 rfl ci0 ?_
  refine E_is rfl (fun lv1 K1 kp => ?_)
  have M0 := kp 0 _ (nbz rfl) rfl L0
  have loop : ∀ (j : Nat) {k : Nat} (lv : List (Nat × Value)), k + j = 9 → pm_get lv 0 = some (.int x) → pm_get lv 1 = some (.int (nJ k)) → Ends (pm_at tX7_lowestBit) (pm_Rt pm_P 0) (2, lv, [], h, 0, 0) (fun h' r => h' = h ∧ ∃ e, e ≤ 8 ∧ r = some (.int (nJ e))) := by
    intro j
    induction j with
    | zero =>
      intro k lv hj L0 L1
      refine E_il rfl L1 ?_
      refine E_ci 9 rfl ci9 ?_
      refine E_icT rfl (decide_eq_true ((nJ_le (by first | decide | with_reducible assumption | omega) (by first | decide | with_reducible assumption | omega)).mpr (by first | decide | with_reducible assumption | omega))) ?_
      refine E_ci 0 rfl ci0 ?_
      exact E_rti rfl ⟨rfl, 0, by omega, rfl⟩
    | succ j ih =>
      intro k lv hj L0 L1
      refine E_il rfl L1 ?_
      refine E_ci 9 rfl ci9 ?_
      refine E_icF rfl (decide_eq_false (fun q => absurd ((nJ_le (by first | decide | with_reducible assumption | omega) (by first | decide | with_reducible assumption | omega)).mp q) (by first | decide | with_reducible assumption | omega))) ?_
      refine E_il rfl L0 ?_
      refine E_il rfl L1 ?_
      refine E_bin rfl rfl ?_
      refine E_ci 1 rfl ci1 ?_
      refine E_bin rfl rfl ?_
      by_cases b : x >>> (nJ k &&& 31) &&& nJ 1 = 0
      · refine E_ifT rfl (decide_eq_true b) ?_
        refine E_inc rfl L1 (nJ_inc _) (fun lv1 K1 kp => ?_)
        refine E_goto rfl ?_
        exact ih lv1 (by first | decide | with_reducible assumption | omega) (kp 0 _ (nbz rfl) rfl L0) K1
      · refine E_ifF rfl (decide_eq_false b) ?_
        refine E_il rfl L1 ?_
        exact E_rti rfl ⟨rfl, k, by omega, rfl⟩
  exact loop 9 lv1 (by first | decide | with_reducible assumption | omega) M0 K1
theorem sp_lu7 {c i n : Nat} (hc : hsF c = some (.inr (.inl 60))) (hh : HH h) (n7 : n ≤ 7) (i7 : i ≤ n) (x0 : 0 ≤ x.toInt) (x5 : x.toInt ≤ 511) : Sp 2 67 h [.ref 64, .ref c, .int (nJ i), .int (nJ n), .int x] (fun h' r => h' = h ∧ ∃ e, e ≤ 8 ∧ r = some (.int (nJ e))) := by
  refine Sp_of aiX7_leastUnwritten rfl rfl rfl ?_
  have L1 : pm_get (lv_args 0 [.ref 64, .ref c, .int (nJ i), .int (nJ n), .int x]) 1 = some (.ref c) := rfl
  have L2 : pm_get (lv_args 0 [.ref 64, .ref c, .int (nJ i), .int (nJ n), .int x]) 2 = some (.int (nJ i)) := rfl
  have L3 : pm_get (lv_args 0 [.ref 64, .ref c, .int (nJ i), .int (nJ n), .int x]) 3 = some (.int (nJ n)) := rfl
  have L4 : pm_get (lv_args 0 [.ref 64, .ref c, .int (nJ i), .int (nJ n), .int x]) 4 = some (.int x) := rfl
  generalize lv_args 0 [.ref 64, .ref c, .int (nJ i), .int (nJ n), .int x] = lv at L1 L2 L3 L4 ⊢
  have loop : ∀ (j : Nat) {k : Nat} {y : Int32} (lv : List (Nat × Value)), k + j = n → 0 ≤ y.toInt → y.toInt ≤ 511 → pm_get lv 1 = some (.ref c) → pm_get lv 3 = some (.int (nJ n)) → pm_get lv 5 = some (.int y) → pm_get lv 6 = some (.int (nJ k)) → Ends (pm_at tX7_leastUnwritten) (pm_Rt pm_P 1) (7, lv, [], h, 0, 0) (fun h' r => h' = h ∧ ∃ e, e ≤ 8 ∧ r = some (.int (nJ e))) := by
    intro j
    induction j with
    | zero =>
      intro k y lv hj y0 y5 L1 L3 L5 L6
      refine E_il rfl L6 ?_
      refine E_il rfl L3 ?_
      refine E_icT rfl (decide_eq_true ((nJ_le (by first | decide | with_reducible assumption | omega) (by first | decide | with_reducible assumption | omega)).mpr (by first | decide | with_reducible assumption | omega))) ?_
      refine E_il rfl L5 ?_
      refine E_call rfl (sp_low7 hh y0 y5) (chkS rfl (by show 0 ≤ 8; decide)) (fun h1 r1 => ?_)
      rintro ⟨e1, e, he, f1⟩
      rw [e1, f1]
      exact E_rti rfl ⟨rfl, e, he, rfl⟩
    | succ j ih =>
      intro k y lv hj y0 y5 L1 L3 L5 L6
      refine E_il rfl L6 ?_
      refine E_il rfl L3 ?_
      refine E_icF rfl (decide_eq_false (fun q => absurd ((nJ_le (by first | decide | with_reducible assumption | omega) (by first | decide | with_reducible assumption | omega)).mp q) (by first | decide | with_reducible assumption | omega))) ?_
      refine E_il rfl L5 ?_
      refine E_ci 1 rfl ci1 ?_
      refine E_al rfl L1 ?_
      refine E_il rfl L6 ?_
      refine E_lal rfl hh hc (by first | decide | with_reducible assumption | omega) (by decide) ?_
      refine E_l2i rfl rfl ?_
      refine E_bin rfl rfl ?_
      refine E_c rfl ?_
      refine E_bin rfl rfl ?_
      refine E_bin rfl rfl ?_
      refine E_is rfl (fun lv1 K5 kp => ?_)
      refine E_inc rfl (kp 6 _ (nbz rfl) rfl L6) (nJ_inc _) (fun lv2 K6 kp2 => ?_)
      refine E_goto rfl ?_
      have a := ai_and1 (x := y) (y := (nJ 1 <<< ((gl h c k).toInt32 &&& 31)) ^^^ -1) y0
      exact ih lv2 (by first | decide | with_reducible assumption | omega) a.1 (by first | decide | with_reducible assumption | omega) (kp2 1 _ (nbz rfl) rfl (kp 1 _ (nbz rfl) rfl L1)) (kp2 3 _ (nbz rfl) rfl (kp 3 _ (nbz rfl) rfl L3)) (kp2 5 _ (nbz rfl) rfl K5) K6
  refine E_il rfl L4 ?_
  refine E_is rfl (fun lv1 K5 kp => ?_)
  refine E_il rfl (kp 2 _ (nbz rfl) rfl L2) ?_
  refine E_is rfl (fun lv2 K6 kp2 => ?_)
  exact loop (n - i) lv2 (by first | decide | with_reducible assumption | omega) x0 x5 (kp2 1 _ (nbz rfl) rfl (kp 1 _ (nbz rfl) rfl L1)) (kp2 3 _ (nbz rfl) rfl (kp 3 _ (nbz rfl) rfl L3)) (kp2 5 _ (nbz rfl) rfl K5) K6
/-- a call by a summary without cases that matter -/
theorem sp_add7 {e v : Nat} (hh : HH h) (he : e ≤ 8) (hv : v ≤ 8) : Sp 1 57 h [.ref 64, .int (nJ e), .int (nJ v)] (fun h' r => r = none ∧ HH h' ∧ fr_g RF7 h h' ∧ gi h' 64 5 = gi h 64 5) := by
  have z1 := nJ_toInt (n := e) (by first | decide | with_reducible assumption | omega)
  have z2 := nJ_toInt (n := v) (by first | decide | with_reducible assumption | omega)
  refine Sp_mono ?_ (Sp_sum q331 (as := [.ref 64, .int (nJ e), .int (nJ v)]) hh ⟨rfl, ⟨by show (0 : Int) ≤ (nJ e).toInt; omega, by show (nJ e).toInt ≤ 8; omega⟩, ⟨by show (0 : Int) ≤ (nJ v).toInt; omega, by show (nJ v).toInt ≤ 8; omega⟩, trivial⟩ (fun _ hq => absurd hq List.not_mem_nil) (fun _ hq => absurd hq List.not_mem_nil))
  rintro h' r ⟨a, b, C, hC, c⟩
  have e := List.mem_singleton.mp hC
  subst e
  refine ⟨?_, a, fr_wk rfl b, fr_gi b rfl⟩
  match r, c.2.2.2 with
  | none, _ => rfl
theorem sp_clr7 (hh : HH h) : Sp 1 60 h [.ref 64] (fun h' r => r = none ∧ HH h' ∧ fr_g RF7 h h' ∧ gi h' 64 5 = gi h 64 5) := by
  refine Sp_mono ?_ (Sp_sum q302 (as := [.ref 64]) hh ⟨rfl, trivial⟩ (fun _ hq => absurd hq List.not_mem_nil) (fun _ hq => absurd hq List.not_mem_nil))
  rintro h' r ⟨a, b, C, hC, c⟩
  have e := List.mem_singleton.mp hC
  subst e
  refine ⟨?_, a, fr_wk rfl b, fr_gi b rfl⟩
  match r, c.2.2.2 with
  | none, _ => rfl
theorem sp_hng7 (hh : HH h) : Sp 2 64 h [.ref 64] (fun h' r => r = none ∧ HH h' ∧ fr_g RF7 h h' ∧ gi h' 64 5 = gi h 64 5) := by
  refine Sp_mono ?_ (Sp_sum q322 (as := [.ref 64]) hh ⟨rfl, trivial⟩ (fun _ hq => absurd hq List.not_mem_nil) (fun _ hq => absurd hq List.not_mem_nil))
  rintro h' r ⟨a, b, C, hC, c⟩
  have e := List.mem_singleton.mp hC
  subst e
  refine ⟨?_, a, fr_wk rfl b, fr_gi b rfl⟩
  match r, c.2.2.2 with
  | none, _ => rfl
theorem bx_tab : ∀ p : Fin 9, 0 ≤ ((nJ 1 <<< (nJ (p.val + 1) &&& 31)) - nJ 1).toInt ∧ ((nJ 1 <<< (nJ (p.val + 1) &&& 31)) - nJ 1).toInt ≤ 511 := by decide +kernel
theorem l2i_nJ7 {y : Int64} (h0 : 0 ≤ y.toInt) (h8 : y.toInt ≤ 8) : y.toInt32 = nJ y.toInt.toNat := by
  apply Int32.toInt_inj.mp
  rw [Int64.toInt_toInt32, nJ_toInt (by first | decide | with_reducible assumption | omega), Int.bmod_eq_of_le (by first | decide | with_reducible assumption | omega) (by first | decide | with_reducible assumption | omega)]
  omega
theorem sp_decode7 {c p : Nat} (hc : hsF c = some (.inr (.inl 60))) (cn : RF7.all (fun r => !(Nat.beq r.1 c)) = true) (hh : HH h) (p1 : 1 ≤ p) (p8 : p ≤ 8) (V : ∀ m, m < p - 1 → 0 ≤ (gl h c m).toInt ∧ (gl h c m).toInt ≤ 8) : Sp 3 62 h [.ref 64, .ref c, .int (nJ p)] (fun h' r => r = none ∧ HH h' ∧ fr_g RF7 h h' ∧ gi h' 64 5 = nJ (p + 1)) := by
  refine Sp_of aiX7_decode rfl rfl rfl ?_
  have L0 : pm_get (lv_args 0 [.ref 64, .ref c, .int (nJ p)]) 0 = some (.ref 64) := rfl
  have L1 : pm_get (lv_args 0 [.ref 64, .ref c, .int (nJ p)]) 1 = some (.ref c) := rfl
  have L2 : pm_get (lv_args 0 [.ref 64, .ref c, .int (nJ p)]) 2 = some (.int (nJ p)) := rfl
  generalize lv_args 0 [.ref 64, .ref c, .int (nJ p)] = lv at L0 L1 L2 ⊢
  have gc : ∀ {g : pm_H}, fr_g RF7 h g → ∀ k, gl g c k = gl h c k := fun hf k => by
    unfold gl
    rw [hf c k (rg_no cn k)]
  have loop : ∀ (j : Nat) {g : pm_H} {k : Nat} {y : Int32} (lv : List (Nat × Value)), k + j = p - 1 → HH g → fr_g RF7 h g → gi g 64 5 = nJ (p + 1) → 0 ≤ y.toInt → y.toInt ≤ 511 → pm_get lv 0 = some (.ref 64) → pm_get lv 1 = some (.ref c) → pm_get lv 2 = some (.int (nJ p)) → pm_get lv 3 = some (.int y) → pm_get lv 4 = some (.int (nJ k)) → Ends (pm_at tX7_decode) (pm_Rt pm_P 2) (21, lv, [], g, 0, 0) (fun h' r => r = none ∧ HH h' ∧ fr_g RF7 h h' ∧ gi h' 64 5 = nJ (p + 1)) := by
    intro j
    induction j with
    | zero =>
      intro g k y lv hj hg hf g5 y0 y5 L0 L1 L2 L3 L4
      refine E_il rfl L4 ?_
      refine E_il rfl L2 ?_
      refine E_ci 1 rfl ci1 ?_
      refine E_bin rfl (nJ_sub p1) ?_
      refine E_icT rfl (decide_eq_true ((nJ_le (by first | decide | with_reducible assumption | omega) (by first | decide | with_reducible assumption | omega)).mpr (by first | decide | with_reducible assumption | omega))) ?_
      refine E_il rfl L3 ?_
      refine E_call rfl (Sp_le (by first | exact Nat.add_le_add_left (Nat.le_of_ble_eq_true rfl) _ | exact Nat.le_of_ble_eq_true rfl | omega) (sp_low7 hg y0 y5)) (chkS rfl (by show 0 ≤ 8; decide)) (fun h1 r1 => ?_)
      rintro ⟨e1, e, he, f1⟩
      rw [e1, f1]
      refine E_is rfl (fun lv1 K4 kp => ?_)
      have M0 := kp 0 _ (nbz rfl) rfl L0
      have M3 := kp 3 _ (nbz rfl) rfl L3
      refine E_al rfl M0 ?_
      refine E_il rfl K4 ?_
      refine E_il rfl M3 ?_
      refine E_ci 1 rfl ci1 ?_
      refine E_il rfl K4 ?_
      refine E_bin rfl rfl ?_
      refine E_c rfl ?_
      refine E_bin rfl rfl ?_
      refine E_bin rfl rfl ?_
      have a := ai_and1 (x := y) (y := (nJ 1 <<< (nJ e &&& 31)) ^^^ -1) y0
      refine E_call rfl (Sp_le (by first | exact Nat.add_le_add_left (Nat.le_of_ble_eq_true rfl) _ | exact Nat.le_of_ble_eq_true rfl | omega) (sp_low7 hg a.1 (by first | decide | with_reducible assumption | omega))) (chkS rfl (by show 2 ≤ 8; decide)) (fun h2 r2 => ?_)
      rintro ⟨e2, u, hu, f2⟩
      rw [e2, f2]
      refine E_call rfl (Sp_le (by first | exact Nat.add_le_add_left (Nat.le_of_ble_eq_true rfl) _ | exact Nat.le_of_ble_eq_true rfl | omega) (sp_add7 hg he hu)) (chkO (a := 64) hg rfl rfl rfl rfl (by show 0 ≤ 8; decide)) (fun h3 r3 => ?_)
      rintro ⟨e3, hh3, f3, g3⟩
      rw [e3]
      refine E_al rfl M0 ?_
      refine E_call rfl (sp_hng7 hh3) (chkO (a := 64) hh3 rfl rfl rfl rfl (by show 0 ≤ 8; decide)) (fun h4 r4 => ?_)
      rintro ⟨e4, hh4, f4, g4⟩
      rw [e4]
      exact E_ret rfl ⟨rfl, hh4, fr_trans hf (fr_trans f3 f4), by rw [g4]; exact g3.trans g5⟩
    | succ j ih =>
      intro g k y lv hj hg hf g5 y0 y5 L0 L1 L2 L3 L4
      refine E_il rfl L4 ?_
      refine E_il rfl L2 ?_
      refine E_ci 1 rfl ci1 ?_
      refine E_bin rfl (nJ_sub p1) ?_
      refine E_icF rfl (decide_eq_false (fun q => absurd ((nJ_le (by first | decide | with_reducible assumption | omega) (by first | decide | with_reducible assumption | omega)).mp q) (by first | decide | with_reducible assumption | omega))) ?_
      refine E_al rfl L0 ?_
      refine E_al rfl L1 ?_
      refine E_il rfl L4 ?_
      refine E_il rfl L2 ?_
      refine E_ci 1 rfl ci1 ?_
      refine E_bin rfl (nJ_sub p1) ?_
      refine E_il rfl L3 ?_
      refine E_call rfl (sp_lu7 hc hg (by first | decide | with_reducible assumption | omega) (by first | decide | with_reducible assumption | omega) y0 y5) (chkO (a := 64) hg rfl rfl rfl rfl (by show 0 ≤ 8; decide)) (fun h1 r1 => ?_)
      rintro ⟨e1, e, he, f1⟩
      rw [e1, f1]
      refine E_is rfl (fun lv1 K5 kp => ?_)
      refine E_il rfl (kp 3 _ (nbz rfl) rfl L3) ?_
      refine E_ci 1 rfl ci1 ?_
      refine E_il rfl K5 ?_
      refine E_bin rfl rfl ?_
      refine E_c rfl ?_
      refine E_bin rfl rfl ?_
      refine E_bin rfl rfl ?_
      have a := ai_and1 (x := y) (y := (nJ 1 <<< (nJ e &&& 31)) ^^^ -1) y0
      refine E_is rfl (fun lv2 K3 kp2 => ?_)
      have M0 := kp2 0 _ (nbz rfl) rfl (kp 0 _ (nbz rfl) rfl L0)
      have M1 := kp2 1 _ (nbz rfl) rfl (kp 1 _ (nbz rfl) rfl L1)
      have M2 := kp2 2 _ (nbz rfl) rfl (kp 2 _ (nbz rfl) rfl L2)
      have M4 := kp2 4 _ (nbz rfl) rfl (kp 4 _ (nbz rfl) rfl L4)
      have M5 := kp2 5 _ (nbz rfl) rfl K5
      have v := V k (by first | decide | with_reducible assumption | omega)
      refine E_al rfl M0 ?_
      refine E_il rfl M5 ?_
      refine E_al rfl M1 ?_
      refine E_il rfl M4 ?_
      refine E_lal rfl hg hc (by first | decide | with_reducible assumption | omega) (by decide) ?_
      refine E_l2i rfl (show (gl g c k).toInt32 = nJ (gl h c k).toInt.toNat from by rw [gc hf]; exact l2i_nJ7 v.1 v.2) ?_
      refine E_call rfl (Sp_le (by first | exact Nat.add_le_add_left (Nat.le_of_ble_eq_true rfl) _ | exact Nat.le_of_ble_eq_true rfl | omega) (sp_add7 hg he (v := (gl h c k).toInt.toNat) (by first | decide | with_reducible assumption | omega))) (chkO (a := 64) hg rfl rfl rfl rfl (by show 0 ≤ 8; decide)) (fun h3 r3 => ?_)
      rintro ⟨e3, hh3, f3, g3⟩
      rw [e3]
      refine E_inc rfl M4 (nJ_inc _) (fun lv3 K4 kp3 => ?_)
      refine E_goto rfl ?_
      exact ih lv3 (by first | decide | with_reducible assumption | omega) hh3 (fr_trans hf f3) (g3.trans g5) a.1 (by first | decide | with_reducible assumption | omega) (kp3 0 _ (nbz rfl) rfl M0) (kp3 1 _ (nbz rfl) rfl M1) (kp3 2 _ (nbz rfl) rfl M2) (kp3 3 _ (nbz rfl) rfl K3) K4
  refine E_al rfl L0 ?_
  refine E_il rfl L2 ?_
  refine E_call rfl (Sp_le (by first | exact Nat.add_le_add_left (Nat.le_of_ble_eq_true rfl) _ | exact Nat.le_of_ble_eq_true rfl | omega) (sp_begin7 (d := 0) hh p8)) (chkO (a := 64) hh rfl rfl rfl rfl (by show 0 ≤ 8; decide)) (fun h1 r1 => ?_)
  rintro ⟨e1, hh1, f1, g1⟩
  rw [e1]
  refine E_al rfl L0 ?_
  refine E_call rfl (Sp_le (by first | exact Nat.add_le_add_left (Nat.le_of_ble_eq_true rfl) _ | exact Nat.le_of_ble_eq_true rfl | omega) (sp_clr7 hh1)) (chkO (a := 64) hh1 rfl rfl rfl rfl (by show 0 ≤ 8; decide)) (fun h2 r2 => ?_)
  rintro ⟨e2, hh2, f2, g2'⟩
  rw [e2]
  have g2 : gi h2 64 5 = nJ (p + 1) := g2'.trans g1
  refine E_ci 1 rfl ci1 ?_
  refine E_al rfl L0 ?_
  refine E_ogf (q := (0, 9)) rfl hh2 rfl rfl g2 ?_
  refine E_bin rfl rfl ?_
  refine E_ci 1 rfl ci1 ?_
  refine E_bin rfl rfl ?_
  have bx := bx_tab ⟨p, by omega⟩
  refine E_is rfl (fun lv1 K3 kp => ?_)
  refine E_ci 0 rfl ci0 ?_
  refine E_is rfl (fun lv2 K4 kp2 => ?_)
  exact loop (p - 1) lv2 (by first | decide | with_reducible assumption | omega) hh2 (fr_trans f1 f2) g2 bx.1 bx.2 (kp2 0 _ (nbz rfl) rfl (kp 0 _ (nbz rfl) rfl L0)) (kp2 1 _ (nbz rfl) rfl (kp 1 _ (nbz rfl) rfl L1)) (kp2 2 _ (nbz rfl) rfl (kp 2 _ (nbz rfl) rfl L2)) (kp2 3 _ (nbz rfl) rfl K3) K4
noncomputable def RcQ (h : pm_H) (x : Int32) (h' : pm_H) (r : Option Value) : Prop := HH h' ∧ fr_g RF7 h h' ∧ ((∃ y : Int32, r = some (.int y) ∧ -6 ≤ y.toInt ∧ y.toInt ≤ -2) ∨ (0 ≤ x.toInt ∧ x.toInt ≤ 3 ∧ r = some (.int 0) ∧ 1 ≤ (gi h' 15 0).toInt ∧ (gi h' 15 0).toInt ≤ 8 ∧ 2 ≤ (gi h' 64 5).toInt ∧ (gi h' 64 5).toInt ≤ 9))
theorem cn_at : ∀ s, s < 4 → RF7.all (fun r => !(Nat.beq r.1 (55 + 2 * s))) = true
  | 0, _ => rfl
  | 1, _ => rfl
  | 2, _ => rfl
  | 3, _ => rfl
  | s + 4, hs => absurd hs (by first | decide | with_reducible assumption | omega)
theorem sp_readCode7 (hh : HH h) : Sp 4 165 h [.ref 0, .int x, .int (nJ 1)] (RcQ h x) := by
  refine Sp_of (d := 3) aiX8_readCode rfl rfl rfl ?_
  have L0 : pm_get (lv_args 0 [.ref 0, .int x, .int (nJ 1)]) 0 = some (.ref 0) := rfl
  have L1 : pm_get (lv_args 0 [.ref 0, .int x, .int (nJ 1)]) 1 = some (.int x) := rfl
  have L2 : pm_get (lv_args 0 [.ref 0, .int x, .int (nJ 1)]) 2 = some (.int (nJ 1)) := rfl
  generalize lv_args 0 [.ref 0, .int x, .int (nJ 1)] = lv at L0 L1 L2 ⊢
  have p8 : gn h 15 0 ≤ 8 := gn_hi hh rfl (by decide)
  have pe : gi h 15 0 = nJ (gn h 15 0) := gi_gn hh rfl (by decide)
  have bad : ∀ {y : Int32}, -6 ≤ y.toInt → y.toInt ≤ -2 → RcQ h x h (some (.int y)) := fun a b => ⟨hh, fr_rf _ _, .inl ⟨_, rfl, a, b⟩⟩
  refine E_il rfl L1 ?_
  refine E_call rfl (Sp_le (by first | exact Nat.add_le_add_left (Nat.le_of_ble_eq_true rfl) _ | exact Nat.le_of_ble_eq_true rfl | omega) (sp_isSlot8 (d := 0))) (chkS rfl (by show 0 ≤ 8; decide)) (fun h1 r1 => ?_)
  rintro ⟨e1, f1⟩
  rw [e1]
  rcases f1 with ⟨x0, x3, f1⟩ | ⟨xn, f1⟩
  · rw [f1]
    refine E_ifF rfl (by decide) ?_
    refine E_il rfl L2 ?_
    refine E_ifT rfl (by decide) ?_
    obtain ⟨s, hs, rfl⟩ : ∃ s, s < 4 ∧ x = nJ s := ⟨x.toInt.toNat, by omega, nJ_of x0⟩
    obtain ⟨S1, S2, S3, S4, S5, S6⟩ := isS_at s hs
    refine E_al rfl L0 ?_
    refine E_ogr rfl hh rfl (q := 53) rfl ?_
    refine E_il rfl L1 ?_
    refine E_aal rfl hh rfl (slot_at s hs) (by decide) ?_
    refine E_asr rfl (fun lv1 M3 kp => ?_)
    have M0 := kp 0 _ (nbz rfl) rfl L0
    refine E_al rfl M3 ?_
    refine E_ogf rfl hh S1 S4 rfl ?_
    by_cases b1 : gi h (54 + 2 * s) 1 = 0
    · refine E_ifF rfl (decide_eq_false (fun q => q b1)) ?_
      refine E_c rfl ?_
      exact E_rti rfl (bad (by decide) (by decide))
    refine E_ifT rfl (decide_eq_true b1) ?_
    have hn : gn h (54 + 2 * s) 3 ≤ 60 := gn_hi hh S6 (by decide)
    have ne : gi h (54 + 2 * s) 3 = nJ (gn h (54 + 2 * s) 3) := gi_gn hh S6 (by decide)
    refine E_al rfl M3 ?_
    refine E_ogf rfl hh S1 S6 ne ?_
    refine E_al rfl M0 ?_
    refine E_ogr rfl hh rfl (q := 15) rfl ?_
    refine E_ogf rfl hh rfl (q := (0, 8)) rfl pe ?_
    refine E_ci 1 rfl ci1 ?_
    refine E_bin rfl rfl ?_
    have ti : (nJ (gn h 15 0) - nJ 1).toInt = (gn h 15 0 : Int) - 1 := by
      rw [Int32.toInt_sub, nJ_toInt (by first | decide | with_reducible assumption | omega), nJ_toInt (by first | decide | with_reducible assumption | omega)]
      exact Int.bmod_eq_of_le (by first | decide | with_reducible assumption | omega) (by first | decide | with_reducible assumption | omega)
    have tn := nJ_toInt (n := gn h (54 + 2 * s) 3) (by first | decide | with_reducible assumption | omega)
    by_cases b2 : nJ (gn h (54 + 2 * s) 3) = nJ (gn h 15 0) - nJ 1
    · refine E_icT rfl (decide_eq_true b2) ?_
      have en : gn h (54 + 2 * s) 3 + 1 = gn h 15 0 := by
        have := congrArg Int32.toInt b2
        omega
      have loop : ∀ (j : Nat) {k : Nat} (lv : List (Nat × Value)), k + j = gn h (54 + 2 * s) 3 → (∀ m, m < k → 0 ≤ (gl h (55 + 2 * s) m).toInt ∧ (gl h (55 + 2 * s) m).toInt ≤ 8) → pm_get lv 0 = some (.ref 0) → pm_get lv 3 = some (.ref (54 + 2 * s)) → pm_get lv 4 = some (.int (nJ k)) → Ends (pm_at tX8_readCode) (pm_Rt pm_P 3) (53, lv, [], h, 0, 0) (RcQ h (nJ s)) := by
        intro j
        induction j with
        | zero =>
          intro k lv hj V L0 L3 L4
          refine E_il rfl L4 ?_
          refine E_al rfl L3 ?_
          refine E_ogf rfl hh S1 S6 ne ?_
          refine E_icT rfl (decide_eq_true ((nJ_le (by first | decide | with_reducible assumption | omega) (by first | decide | with_reducible assumption | omega)).mpr (by first | decide | with_reducible assumption | omega))) ?_
          refine E_al rfl L0 ?_
          refine E_ogr rfl hh rfl (q := 64) rfl ?_
          refine E_al rfl L3 ?_
          refine E_ogr rfl hh S1 S2 ?_
          refine E_al rfl L0 ?_
          refine E_ogr rfl hh rfl (q := 15) rfl ?_
          refine E_ogf rfl hh rfl (q := (0, 8)) rfl pe ?_
          refine E_call rfl (sp_decode7 S3 (cn_at s hs) hh (show 1 ≤ gn h 15 0 by omega) p8 (fun m hm => V m (by first | decide | with_reducible assumption | omega))) (chkO (a := 64) hh rfl rfl rfl rfl (by show 0 ≤ 8; decide)) (fun h2 r2 => ?_)
          rintro ⟨e2, hh2, f2, g2⟩
          rw [e2]
          refine E_c rfl ?_
          have q0 : gi h2 15 0 = nJ (gn h 15 0) := by rw [fr_gi f2 (rg_no rfl _)]; exact pe
          have t0 := nJ_toInt (n := gn h 15 0) (by first | decide | with_reducible assumption | omega)
          have t5 := nJ_toInt (n := gn h 15 0 + 1) (by first | decide | with_reducible assumption | omega)
          exact E_rti rfl ⟨hh2, f2, .inr ⟨x0, x3, rfl, by rw [q0]; omega, by rw [q0]; omega, by rw [g2]; omega, by rw [g2]; omega⟩⟩
        | succ j ih =>
          intro k lv hj V L0 L3 L4
          refine E_il rfl L4 ?_
          refine E_al rfl L3 ?_
          refine E_ogf rfl hh S1 S6 ne ?_
          refine E_icF rfl (decide_eq_false (fun q => absurd ((nJ_le (by first | decide | with_reducible assumption | omega) (by first | decide | with_reducible assumption | omega)).mp q) (by first | decide | with_reducible assumption | omega))) ?_
          refine E_al rfl L3 ?_
          refine E_ogr rfl hh S1 S2 ?_
          refine E_il rfl L4 ?_
          refine E_lal rfl hh S3 (by first | decide | with_reducible assumption | omega) (by decide) ?_
          refine E_c rfl ?_
          refine E_lcmp rfl ?_
          by_cases c1 : lg_cmp (gl h (55 + 2 * s) k) 0 < 0
          · refine E_ifT rfl (decide_eq_true c1) ?_
            refine E_c rfl ?_
            exact E_rti rfl (bad (by decide) (by decide))
          refine E_ifF rfl (decide_eq_false c1) ?_
          refine E_al rfl L3 ?_
          refine E_ogr rfl hh S1 S2 ?_
          refine E_il rfl L4 ?_
          refine E_lal rfl hh S3 (by first | decide | with_reducible assumption | omega) (by decide) ?_
          refine E_al rfl L0 ?_
          refine E_ogr rfl hh rfl (q := 15) rfl ?_
          refine E_ogf rfl hh rfl (q := (0, 8)) rfl pe ?_
          refine E_i2l rfl ?_
          refine E_lcmp rfl ?_
          by_cases c2 : lg_cmp (gl h (55 + 2 * s) k) (nJ (gn h 15 0)).toInt64 ≤ 0
          · refine E_ifT rfl (decide_eq_true c2) ?_
            refine E_inc rfl L4 (nJ_inc _) (fun lv2 K4 kp2 => ?_)
            refine E_goto rfl ?_
            refine ih lv2 (by first | decide | with_reducible assumption | omega) (fun m hm => ?_) (kp2 0 _ (nbz rfl) rfl L0) (kp2 3 _ (nbz rfl) rfl L3) K4
            by_cases e : m = k
            · rw [e]
              have q1 : ¬ gl h (55 + 2 * s) k < 0 := fun z => c1 ((lg_cmp_lt _ _).mpr z)
              rw [Int64.lt_iff_toInt_lt] at q1
              have z0 : (0 : Int64).toInt = 0 := rfl
              have q2 := (lg_cmp_le _ _).mp c2
              rw [Int64.le_iff_toInt_le, i2l_nJ (by first | decide | with_reducible assumption | omega)] at q2
              omega
            · exact V m (by first | decide | with_reducible assumption | omega)
          · refine E_ifF rfl (decide_eq_false c2) ?_
            refine E_c rfl ?_
            exact E_rti rfl (bad (by decide) (by decide))
      refine E_ci 0 rfl ci0 ?_
      refine E_is rfl (fun lv2 K4 kp2 => ?_)
      exact loop (gn h (54 + 2 * s) 3) (k := 0) lv2 (by first | decide | with_reducible assumption | omega) (fun m hm => absurd hm (Nat.not_lt_zero m)) (kp2 0 _ (nbz rfl) rfl M0) (kp2 3 _ (nbz rfl) rfl M3) K4
    · refine E_icF rfl (decide_eq_false b2) ?_
      refine E_c rfl ?_
      exact E_rti rfl (bad (by decide) (by decide))
  · rw [f1]
    refine E_ifT rfl (by decide) ?_
    refine E_c rfl ?_
    exact E_rti rfl (bad (by decide) (by decide))
end RDC
set_option maxRecDepth 20000 in
theorem q483 : sum_g w0 (pm_Rt pm_P 4) S483 := by
  intro h as hh ha _ _
  match as, ha with
  | [.ref a, .int x, .int y], ⟨h1, h2, h3, _⟩ =>
    have h1 : a = 0 := h1
    have h3 : (1 : Int) ≤ y.toInt ∧ y.toInt ≤ 1 := h3
    have h4 : y = nJ 1 := Int32.toInt_inj.mp (show y.toInt = 1 by omega)
    subst h1
    subst h4
    obtain ⟨h', r, p1, hh', fr, p2⟩ := sp_readCode7 (x := x) hh
    refine ⟨h', r, p1, hh', fr, ?_⟩
    rcases p2 with ⟨y, rfl, y1, y2⟩ | ⟨x0, x3, rfl, a1, a2, b1, b2⟩
    · exact ⟨_, List.mem_cons_self, ⟨rfl, ⟨ai_lo x, ai_hi x⟩, ⟨by decide, by decide⟩, trivial⟩, fun _ hq => absurd hq List.not_mem_nil, fun _ hq => absurd hq List.not_mem_nil, ⟨y1, y2⟩⟩
    · refine ⟨_, List.mem_cons_of_mem _ List.mem_cons_self, ⟨rfl, ⟨x0, x3⟩, ⟨by decide, by decide⟩, trivial⟩, fun q hq => ?_, fun _ hq => absurd hq List.not_mem_nil, ⟨by decide, by decide⟩⟩
      rcases List.mem_cons.mp hq with hq | hq
      · rw [hq]; exact ⟨_, (ld_gi hh' (a := 15) (k := 0) rfl).1, a1, a2⟩
      · rw [List.mem_singleton.mp hq]; exact ⟨_, (ld_gi hh' (a := 64) (k := 5) rfl).1, b1, b2⟩
noncomputable def S484 : Sum1 := (76, [cR 0, cI (-2147483648) 2147483647, cI (-2147483648) 2147483647], [], [], [(64, 5, 6), (65, 1, 8), (66, 0, 8), (68, 0, 8)], [([cR 0, cI (-2147483648) 2147483647, cI (-2147483648) 2147483647], [], [], some (.inl (cI (-6) 8)))])
theorem q484 : sum_g w0 (pm_Rt pm_P 5) S484 := meth_okB (d := 4) (cuts := []) (spl := []) (K := [0, 1, 2]) (N := 18) (sums := [S315, S317, S483]) aiX8_above (abX8_above w0) (by decide) (List.forall_mem_cons.mpr ⟨sum_up q315 3, List.forall_mem_cons.mpr ⟨sum_up q317 2, List.forall_mem_cons.mpr ⟨sum_up q483 0, fun _ h => absurd h List.not_mem_nil⟩⟩⟩) (by decide +kernel)
noncomputable def S485 : Sum1 := (261, [cL (-2147483648) 2147483647, cL 0 0, cL 3 3], [], [], [], [([cL (-2147483648) 2147483647, cL 0 0, cL 3 3], [], [], some (.inl (cI 0 0))), ([cL 0 3, cL 0 0, cL 3 3], [], [], some (.inl (cI 1 1)))])
theorem q485 : sum_g w0 (pm_Rt pm_P 1) S485 := meth_okB (d := 0) (cuts := []) (spl := []) (K := [0, 2, 4]) (N := 12) (sums := []) aiX9_in (abX9_in w0) (by decide) (fun _ h => absurd h List.not_mem_nil) (by decide +kernel)
noncomputable def S486 : Sum1 := (278, [cI (-2147483648) 2147483647], [], [], [], [([cI 0 3], [], [], some (.inl (cI 1 1))), ([cI (-2147483648) 2147483647], [], [], some (.inl (cI 0 0)))])
theorem q486 : sum_g w0 (pm_Rt pm_P 2) S486 := meth_okB (d := 1) (cuts := []) (spl := []) (K := [0]) (N := 7) (sums := [S485]) aiX9_isSlot (abX9_isSlot w0) (by decide) (List.forall_mem_cons.mpr ⟨sum_up q485 0, fun _ h => absurd h List.not_mem_nil⟩) (by decide +kernel)
noncomputable def S490 : Sum1 := (75, [cR 64, cI 1 8], [], [], [], [([cR 64, cI 1 8], [], [], some (.inl (cI (-1) 9)))])
theorem q490 : sum_g w0 (pm_Rt pm_P 1) S490 := meth_okB (d := 0) (cuts := [(2, [([(0, cR 64), (1, cI 1 8), (2, cI 0 9)], [], [], [], [.inl 0, .inr (.inl 2, true), .inl 0])])]) (spl := []) (K := [0, 1]) (N := 18) (sums := []) aiX7_wishByOrder (abX7_wishByOrder w0) (by decide) (fun _ h => absurd h List.not_mem_nil) (by decide +kernel)
noncomputable def S491 : Sum1 := (199, [cR 0, cI (-2147483648) 2147483647, cI (-2147483648) 2147483647], [], [], [(64, 5, 6), (65, 1, 8), (66, 0, 8), (68, 0, 8)], [([cR 0, cI (-2147483648) 2147483647, cI (-2147483648) 2147483647], [], [], some (.inl (cI (-6) 9)))])
theorem q491 : sum_g w0 (pm_Rt pm_P 5) S491 := meth_okB (d := 4) (cuts := []) (spl := []) (K := [0, 1, 2]) (N := 17) (sums := [S490, S315, S317, S483]) aiX8_wish (abX8_wish w0) (by decide) (List.forall_mem_cons.mpr ⟨sum_up q490 3, List.forall_mem_cons.mpr ⟨sum_up q315 3, List.forall_mem_cons.mpr ⟨sum_up q317 2, List.forall_mem_cons.mpr ⟨sum_up q483 0, fun _ h => absurd h List.not_mem_nil⟩⟩⟩⟩) (by decide +kernel)
noncomputable def S492 : Sum1 := (58, [cR 64, cI (-1) 8], [], [], [(64, 5, 6), (66, 0, 0)], [([cR 64, cI (-1) 8], [((64, 6), 1, 1), ((66, 0), 0, 0)], [], none)])
theorem q492 : sum_g w0 (pm_Rt pm_P 1) S492 := meth_okB (d := 0) (cuts := []) (spl := []) (K := [0, 1]) (N := 15) (sums := []) aiX7_begin (abX7_begin w0) (by decide) (fun _ h => absurd h List.not_mem_nil) (by decide +kernel)
noncomputable def S493 : Sum1 := (74, [cR 64, cI 1 1], [], [], [(64, 6, 6), (65, 1, 8), (66, 0, 8), (67, 1, 8), (69, 0, 8)], [([cR 64, cI 1 1], [], [], none)])
theorem q493 : sum_g w0 (pm_Rt pm_P 2) S493 := meth_okB (d := 1) (cuts := [(4, [([(0, cR 64), (1, cI 1 1), (2, cI 0 511), (3, cI 0 9)], [], [], [], [.inl 1, .inr (.inl 3, true), .inl 0])]), (52, [([(0, cR 64), (1, cI 1 1), (2, cI 0 511), (3, cI 0 8), (4, cI 0 81), (5, cI 0 81)], [], [((64, 5), 0, 9)], [], [.inl 0, .inr (.inl 5, true), .inl 0])])]) (spl := []) (K := [0, 1]) (N := 50) (sums := [S286]) aiX7_walk (abX7_walk w0) (by decide) (List.forall_mem_cons.mpr ⟨sum_up q286 0, fun _ h => absurd h List.not_mem_nil⟩) (by decide +kernel)
noncomputable def S494 : Sum1 := (71, [cR 64], [], [], [(64, 5, 6), (65, 1, 8), (66, 0, 8), (67, 1, 8), (69, 0, 8)], [([cR 64], [], [], none)])
theorem q494 : sum_g w0 (pm_Rt pm_P 3) S494 := meth_okB (d := 2) (cuts := [(12, [([(0, cR 64), (1, cI 1 9)], [], [((64, 6), 1, 1), ((66, 0), 0, 0)], [], [.inl 0, .inr (.inl 1, true), .inl 0])])]) (spl := []) (K := [0]) (N := 12) (sums := [S493, S492]) aiX7_regainGrains (abX7_regainGrains w0) (by decide) (List.forall_mem_cons.mpr ⟨sum_up q493 0, List.forall_mem_cons.mpr ⟨sum_up q492 1, fun _ h => absurd h List.not_mem_nil⟩⟩) (by decide +kernel)
noncomputable def S495 : Sum1 := (166, [cR 0, cI (-2147483648) 2147483647, cI (-2147483648) 2147483647], [], [], [(64, 5, 6), (65, 1, 8), (66, 0, 8), (67, 1, 8), (68, 0, 8), (69, 0, 8)], [([cR 0, cI (-2147483648) 2147483647, cI (-2147483648) 2147483647], [], [], some (.inl (cI (-2147483648) 2147483647)))])
theorem q495 : sum_g w0 (pm_Rt pm_P 5) S495 := meth_okB (d := 4) (cuts := []) (spl := []) (K := [0, 1, 2]) (N := 23) (sums := [S494, S315, S317, S483]) aiX8_regain (abX8_regain w0) (by decide) (List.forall_mem_cons.mpr ⟨sum_up q494 1, List.forall_mem_cons.mpr ⟨sum_up q315 3, List.forall_mem_cons.mpr ⟨sum_up q317 2, List.forall_mem_cons.mpr ⟨sum_up q483 0, fun _ h => absurd h List.not_mem_nil⟩⟩⟩⟩) (by decide +kernel)
noncomputable def S496 : Sum1 := (196, [cR 0, cI (-2147483648) 2147483647], [], [], [(64, 5, 6), (65, 1, 8), (66, 0, 8), (68, 0, 8)], [([cR 0, cI (-2147483648) 2147483647], [], [], some (.inl (cI (-2147483648) 2147483647)))])
theorem q496 : sum_g w0 (pm_Rt pm_P 5) S496 := meth_okB (d := 4) (cuts := []) (spl := []) (K := [0, 1]) (N := 13) (sums := [S158, S300, S317, S483]) aiX8_upset (abX8_upset w0) (by decide) (List.forall_mem_cons.mpr ⟨sum_up q158 3, List.forall_mem_cons.mpr ⟨sum_up q300 3, List.forall_mem_cons.mpr ⟨sum_up q317 2, List.forall_mem_cons.mpr ⟨sum_up q483 0, fun _ h => absurd h List.not_mem_nil⟩⟩⟩⟩) (by decide +kernel)
noncomputable def S497 : Sum1 := (128, [cR 0, cI (-2147483648) 2147483647], [], [], [], [([cR 0, cI (-2147483648) 2147483647], [], [], some (.inl (cI 0 0))), ([cR 0, cI 1 5], [((15, 0), 1, 8)], [], some (.inl (cI 1 1)))])
theorem q497 : sum_g w0 (pm_Rt pm_P 2) S497 := meth_okB (d := 1) (cuts := []) (spl := []) (K := [0, 1]) (N := 13) (sums := [S158]) aiX8_isTallied (abX8_isTallied w0) (by decide) (List.forall_mem_cons.mpr ⟨sum_up q158 0, fun _ h => absurd h List.not_mem_nil⟩) (by decide +kernel)
noncomputable def S498 : Sum1 := (137, [cI 1 5], [], [], [], [([cI 1 5], [], [], some (.inl (cI (-2147483648) 2147483647)))])
theorem q498 : sum_g w0 (pm_Rt pm_P 1) S498 := meth_okB (d := 0) (cuts := [(4, [([(0, cI 1 5), (1, cI (-2147483648) 2147483647), (2, cI 1 5)], [], [], [], [.inl 0, .inr (.inl 2, true), .inl 0])])]) (spl := []) (K := [0]) (N := 12) (sums := []) aiX8_lawfulRows (abX8_lawfulRows w0) (by decide) (fun _ h => absurd h List.not_mem_nil) (by decide +kernel)
noncomputable def S499 : Sum1 := (173, [cR 0, cI (-2147483648) 2147483647], [], [], [], [([cR 0, cI (-2147483648) 2147483647], [], [], some (.inl (cI (-2147483648) 2147483647)))])
theorem q499 : sum_g w0 (pm_Rt pm_P 3) S499 := meth_okB (d := 2) (cuts := []) (spl := []) (K := [0, 1]) (N := 9) (sums := [S498, S497]) aiX8_rows (abX8_rows w0) (by decide) (List.forall_mem_cons.mpr ⟨sum_up q498 1, List.forall_mem_cons.mpr ⟨sum_up q497 0, fun _ h => absurd h List.not_mem_nil⟩⟩) (by decide +kernel)
noncomputable def S500 : Sum1 := (261, [cL (-2147483648) 2147483647, cL 1 1, cL 5 5], [], [], [], [([cL (-2147483648) 2147483647, cL 1 1, cL 5 5], [], [], some (.inl (cI 0 0))), ([cL 1 5, cL 1 1, cL 5 5], [], [], some (.inl (cI 1 1)))])
theorem q500 : sum_g w0 (pm_Rt pm_P 1) S500 := meth_okB (d := 0) (cuts := []) (spl := []) (K := [0, 2, 4]) (N := 12) (sums := []) aiX9_in (abX9_in w0) (by decide) (fun _ h => absurd h List.not_mem_nil) (by decide +kernel)
noncomputable def S501 : Sum1 := (279, [cR 77, cI (-2147483648) 2147483647], [], [], [], [([cR 77, cI (-2147483648) 2147483647], [], [], some (.inl (cI 0 0))), ([cR 77, cI 1 5], [((83, 0), 1, 2147483647)], [], some (.inl (cI 1 1)))])
theorem q501 : sum_g w0 (pm_Rt pm_P 2) S501 := meth_okB (d := 1) (cuts := []) (spl := []) (K := [0, 1]) (N := 13) (sums := [S160, S500]) aiX9_isSmall (abX9_isSmall w0) (by decide) (List.forall_mem_cons.mpr ⟨sum_up q160 0, List.forall_mem_cons.mpr ⟨sum_up q500 0, fun _ h => absurd h List.not_mem_nil⟩⟩) (by decide +kernel)
noncomputable def S502 : Sum1 := (349, [cR 77, cI 1 5], [], [], [(77, 39, 39), (100, 0, 5)], [([cR 77, cI 1 5], [], [], some (.inl (cI (-2147483648) 2147483647)))])
theorem q502 : sum_g w0 (pm_Rt pm_P 1) S502 := meth_okB (d := 0) (cuts := [(2, [([(0, cR 77), (1, cI 1 5), (2, cI 0 5)], [], [], [], [.inl 1, .inr (.inl 2, true), .inl 0])]), (24, [([(0, cR 77), (1, cI 1 5), (2, cI (-2147483648) 2147483647), (3, cI 0 5)], [], [], [], [.inl 0, .inr (.inl 3, true), .inl 1])]), (37, [([(0, cR 77), (1, cI 1 5), (2, cI (-2147483648) 2147483647), (3, cI 0 4), (4, cI 0 5)], [], [], [], [.inl 0, .inr (.inl 3, true), .inl 0, .inr (.inl 4, true), .inl 0])])]) (spl := []) (K := [0, 1]) (N := 34) (sums := []) aiX9_smallSteps (abX9_smallSteps w0) (by decide) (fun _ h => absurd h List.not_mem_nil) (by decide +kernel)
noncomputable def S503 : Sum1 := (340, [cR 77, cI 1 5, cI (-1) (-1), cI (-1) (-1)], [], [], [(77, 39, 39), (99, 0, 4), (100, 0, 5)], [([cR 77, cI 1 5, cI (-1) (-1), cI (-1) (-1)], [], [], some (.inl (cI (-2147483648) 2147483647)))])
theorem q503 : sum_g w0 (pm_Rt pm_P 2) S503 := meth_okB (d := 1) (cuts := [(6, [([(0, cR 77), (1, cI 1 5), (2, cI (-1) (-1)), (3, cI (-1) (-1)), (4, cI (-2147483648) 2147483647), (5, cI 0 5)], [], [], [], [.inl 1, .inr (.inl 5, true), .inl 0])]), (30, [([(0, cR 77), (1, cI 1 5), (2, cI (-1) (-1)), (3, cI (-1) (-1)), (4, cI (-2147483648) 2147483647), (5, cI (-2147483648) 2147483647), (6, cI 0 2147483647)], [], [], [], [.inl 0, .inr (.inl 6, true), .inl 1])]), (44, [([(0, cR 77), (1, cI 1 5), (2, cI (-1) (-1)), (3, cI (-1) (-1)), (4, cI 1 2147483647), (5, cI (-2147483648) 2147483647), (6, cI 0 2147483646), (7, cI 0 2147483646), (8, cI 0 5)], [], [], [], [.inl 0, .inr (.inl 6, true), .inl 0, .inr (.inl 8, true), .inl 0])])]) (spl := []) (K := [0, 1, 2, 3]) (N := 24) (sums := [S502]) aiX9_rowsBy (abX9_rowsBy w0) (by decide) (List.forall_mem_cons.mpr ⟨sum_up q502 0, fun _ h => absurd h List.not_mem_nil⟩) (by decide +kernel)
noncomputable def S504 : Sum1 := (339, [cR 77, cI (-2147483648) 2147483647], [], [], [(77, 0, 0), (77, 39, 39), (99, 0, 4), (100, 0, 5)], [([cR 77, cI (-2147483648) 2147483647], [], [], some (.inl (cI (-2147483648) 2147483647)))])
theorem q504 : sum_g w0 (pm_Rt pm_P 3) S504 := meth_okB (d := 2) (cuts := []) (spl := []) (K := [0, 1]) (N := 15) (sums := [S503, S501]) aiX9_rows (abX9_rows w0) (by decide) (List.forall_mem_cons.mpr ⟨sum_up q503 0, List.forall_mem_cons.mpr ⟨sum_up q501 0, fun _ h => absurd h List.not_mem_nil⟩⟩) (by decide +kernel)
noncomputable def S505 : Sum1 := (189, [cR 0, cI (-2147483648) 2147483647, cI (-2147483648) 2147483647], [], [], [], [([cR 0, cI (-2147483648) 2147483647, cI (-2147483648) 2147483647], [], [], some (.inl (cI (-2) 270))), ([cR 0, cI 1 5, cI 11 20], [((15, 0), 1, 8)], [], some (.inl (cI 0 0)))])
theorem q505 : sum_g w0 (pm_Rt pm_P 3) S505 := meth_okB (d := 2) (cuts := []) (spl := []) (K := [0, 1, 2]) (N := 24) (sums := [S497]) aiX8_tally (abX8_tally w0) (by decide) (List.forall_mem_cons.mpr ⟨sum_up q497 0, fun _ h => absurd h List.not_mem_nil⟩) (by decide +kernel)
noncomputable def S506 : Sum1 := (150, [cR 0, cI (-2147483648) 2147483647, cI (-2147483648) 2147483647], [], [], [], [([cR 0, cI 1 5, cI 11 20], [((15, 0), 1, 8)], [], some (.inl (cI 0 0))), ([cR 0, cI (-2147483648) 2147483647, cI (-2147483648) 2147483647], [], [], some (.inl (cI (-2) 270)))])
theorem q506 : sum_g w0 (pm_Rt pm_P 4) S506 := meth_okB (d := 3) (cuts := []) (spl := []) (K := [0, 1, 2]) (N := 6) (sums := [S505]) aiX8_moved (abX8_moved w0) (by decide) (List.forall_mem_cons.mpr ⟨sum_up q505 0, fun _ h => absurd h List.not_mem_nil⟩) (by decide +kernel)
noncomputable def S507 : Sum1 := (261, [cL (-2147483648) 2147483647, cL 0 0, cL 20 20], [], [], [], [([cL (-2147483648) 2147483647, cL 0 0, cL 20 20], [], [], some (.inl (cI 0 0))), ([cL 0 20, cL 0 0, cL 20 20], [], [], some (.inl (cI 1 1)))])
theorem q507 : sum_g w0 (pm_Rt pm_P 1) S507 := meth_okB (d := 0) (cuts := []) (spl := []) (K := [0, 2, 4]) (N := 12) (sums := []) aiX9_in (abX9_in w0) (by decide) (fun _ h => absurd h List.not_mem_nil) (by decide +kernel)
noncomputable def S508 : Sum1 := (340, [cR 77, cI 1 5, cI 0 20, cI (-1) (-1)], [], [], [(77, 39, 39), (99, 0, 4), (100, 0, 5)], [([cR 77, cI 1 5, cI 0 20, cI (-1) (-1)], [], [], some (.inl (cI (-2147483648) 2147483647)))])
theorem q508 : sum_g w0 (pm_Rt pm_P 2) S508 := meth_okB (d := 1) (cuts := [(6, [([(0, cR 77), (1, cI 1 5), (2, cI 0 20), (3, cI (-1) (-1)), (4, cI (-2147483648) 2147483647), (5, cI 0 5)], [], [], [], [.inl 1, .inr (.inl 5, true), .inl 0])]), (30, [([(0, cR 77), (1, cI 1 5), (2, cI 0 20), (3, cI (-1) (-1)), (4, cI (-2147483648) 2147483647), (5, cI (-2147483648) 2147483647), (6, cI 0 2147483647)], [], [], [], [.inl 0, .inr (.inl 6, true), .inl 1])]), (44, [([(0, cR 77), (1, cI 1 5), (2, cI 0 20), (3, cI (-1) (-1)), (4, cI 1 2147483647), (5, cI (-2147483648) 2147483647), (6, cI 0 2147483646), (7, cI 0 2147483646), (8, cI 0 5)], [], [], [], [.inl 0, .inr (.inl 6, true), .inl 0, .inr (.inl 8, true), .inl 0])])]) (spl := []) (K := [0, 1, 2, 3]) (N := 27) (sums := [S502]) aiX9_rowsBy (abX9_rowsBy w0) (by decide) (List.forall_mem_cons.mpr ⟨sum_up q502 0, fun _ h => absurd h List.not_mem_nil⟩) (by decide +kernel)
noncomputable def S509 : Sum1 := (314, [cR 77, cI (-2147483648) 2147483647, cI (-2147483648) 2147483647], [], [], [(77, 0, 0), (77, 39, 39), (99, 0, 4), (100, 0, 5)], [([cR 77, cI (-2147483648) 2147483647, cI (-2147483648) 2147483647], [], [], some (.inl (cI (-2147483648) 2147483647)))])
theorem q509 : sum_g w0 (pm_Rt pm_P 3) S509 := meth_okB (d := 2) (cuts := []) (spl := []) (K := [0, 1, 2]) (N := 21) (sums := [S508, S501, S507]) aiX9_moved (abX9_moved w0) (by decide) (List.forall_mem_cons.mpr ⟨sum_up q508 0, List.forall_mem_cons.mpr ⟨sum_up q501 0, List.forall_mem_cons.mpr ⟨sum_up q507 1, fun _ h => absurd h List.not_mem_nil⟩⟩⟩) (by decide +kernel)
noncomputable def S510 : Sum1 := (192, [cR 0, cI (-2147483648) 2147483647, cI (-2147483648) 2147483647], [], [], [], [([cR 0, cI 1 5, cI 11 20], [((15, 0), 1, 8)], [], some (.inl (cI 0 0))), ([cR 0, cI (-2147483648) 2147483647, cI (-2147483648) 2147483647], [], [], some (.inl (cI (-2) 270)))])
theorem q510 : sum_g w0 (pm_Rt pm_P 4) S510 := meth_okB (d := 3) (cuts := []) (spl := []) (K := [0, 1, 2]) (N := 6) (sums := [S505]) aiX8_trees (abX8_trees w0) (by decide) (List.forall_mem_cons.mpr ⟨sum_up q505 0, fun _ h => absurd h List.not_mem_nil⟩) (by decide +kernel)
noncomputable def S511 : Sum1 := (137, [cI 0 4], [], [], [], [([cI 0 4], [], [], some (.inl (cI (-2147483648) 2147483647)))])
theorem q511 : sum_g w0 (pm_Rt pm_P 1) S511 := meth_okB (d := 0) (cuts := [(4, [([(0, cI 0 4), (1, cI (-2147483648) 2147483647), (2, cI 1 4)], [], [], [], [.inl 0, .inr (.inl 2, true), .inl 0])])]) (spl := []) (K := [0]) (N := 12) (sums := []) aiX8_lawfulRows (abX8_lawfulRows w0) (by decide) (fun _ h => absurd h List.not_mem_nil) (by decide +kernel)
noncomputable def S512 : Sum1 := (102, [cR 0, cI (-2147483648) 2147483647, cI (-2147483648) 2147483647], [], [], [], [([cR 0, cI (-2147483648) 2147483647, cI (-2147483648) 2147483647], [], [], some (.inl (cI (-2147483648) 2147483647)))])
theorem q512 : sum_g w0 (pm_Rt pm_P 3) S512 := meth_okB (d := 2) (cuts := []) (spl := []) (K := [0, 1, 2]) (N := 43) (sums := [S511, S497]) aiX8_ends (abX8_ends w0) (by decide) (List.forall_mem_cons.mpr ⟨sum_up q511 1, List.forall_mem_cons.mpr ⟨sum_up q497 0, fun _ h => absurd h List.not_mem_nil⟩⟩) (by decide +kernel)
noncomputable def S513 : Sum1 := (261, [cL (-2147483648) 2147483647, cL 1 1, cL 1 5], [], [], [], [([cL (-2147483648) 2147483647, cL 1 1, cL 1 5], [], [], some (.inl (cI 0 0))), ([cL 1 5, cL 1 1, cL 1 5], [], [], some (.inl (cI 1 1)))])
theorem q513 : sum_g w0 (pm_Rt pm_P 1) S513 := meth_okB (d := 0) (cuts := []) (spl := []) (K := [0, 2, 4]) (N := 12) (sums := []) aiX9_in (abX9_in w0) (by decide) (fun _ h => absurd h List.not_mem_nil) (by decide +kernel)
noncomputable def S514 : Sum1 := (340, [cR 77, cI 1 5, cI (-1) (-1), cI 1 5], [], [], [(77, 39, 39), (99, 0, 4), (100, 0, 5)], [([cR 77, cI 1 5, cI (-1) (-1), cI 1 5], [], [], some (.inl (cI (-2147483648) 2147483647)))])
theorem q514 : sum_g w0 (pm_Rt pm_P 2) S514 := meth_okB (d := 1) (cuts := [(6, [([(0, cR 77), (1, cI 1 5), (2, cI (-1) (-1)), (3, cI 1 5), (4, cI (-2147483648) 2147483647), (5, cI 0 5)], [], [], [], [.inl 1, .inr (.inl 5, true), .inl 0])]), (30, [([(0, cR 77), (1, cI 1 5), (2, cI (-1) (-1)), (3, cI 1 5), (4, cI (-2147483648) 2147483647), (5, cI (-2147483648) 2147483647), (6, cI 0 2147483647)], [], [], [], [.inl 0, .inr (.inl 6, true), .inl 1])]), (44, [([(0, cR 77), (1, cI 1 5), (2, cI (-1) (-1)), (3, cI 1 5), (4, cI 1 2147483647), (5, cI (-2147483648) 2147483647), (6, cI 0 2147483646), (7, cI 0 2147483646), (8, cI 0 5)], [], [], [], [.inl 0, .inr (.inl 6, true), .inl 0, .inr (.inl 8, true), .inl 0])])]) (spl := []) (K := [0, 1, 2, 3]) (N := 28) (sums := [S502]) aiX9_rowsBy (abX9_rowsBy w0) (by decide) (List.forall_mem_cons.mpr ⟨sum_up q502 0, fun _ h => absurd h List.not_mem_nil⟩) (by decide +kernel)
noncomputable def S515 : Sum1 := (242, [cR 77, cI (-2147483648) 2147483647, cI (-2147483648) 2147483647], [], [], [(77, 0, 0), (77, 39, 39), (99, 0, 4), (100, 0, 5)], [([cR 77, cI (-2147483648) 2147483647, cI (-2147483648) 2147483647], [], [], some (.inl (cI (-2147483648) 2147483647)))])
theorem q515 : sum_g w0 (pm_Rt pm_P 3) S515 := meth_okB (d := 2) (cuts := []) (spl := []) (K := [0, 1, 2]) (N := 22) (sums := [S514, S501, S513]) aiX9_ends (abX9_ends w0) (by decide) (List.forall_mem_cons.mpr ⟨sum_up q514 0, List.forall_mem_cons.mpr ⟨sum_up q501 0, List.forall_mem_cons.mpr ⟨sum_up q513 1, fun _ h => absurd h List.not_mem_nil⟩⟩⟩) (by decide +kernel)
noncomputable def S516 : Sum1 := (18, [cR 70, cI 1 9], [], [], [(70, 1, 1), (71, 1, 9)], [([cR 70, cI 1 9], [((70, 1), 1, 9)], [], none)])
theorem q516 : sum_g w0 (pm_Rt pm_P 2) S516 := meth_okB (d := 1) (cuts := [(7, [([(0, cR 70), (1, cI 1 9), (2, cI 1 10)], [], [((70, 1), 1, 9)], [], [.inl 0, .inr (.inl 2, true), .inl 0])])]) (spl := []) (K := [0, 1]) (N := 13) (sums := [S58]) aiX0_start (abX0_start w0) (by decide) (List.forall_mem_cons.mpr ⟨sum_up q58 0, fun _ h => absurd h List.not_mem_nil⟩) (by decide +kernel)
noncomputable def S517 : Sum1 := (15, [cR 70, cI 0 9, cI 0 9], [], [], [(71, 1, 9)], [([cR 70, cI 0 9, cI 0 9], [], [], none)])
theorem q517 : sum_g w0 (pm_Rt pm_P 2) S517 := meth_okB (d := 1) (cuts := [(17, [([(0, cR 70), (1, cI 0 9), (2, cI 0 9), (3, cI 0 511), (4, cI 1 10)], [], [], [], [.inl 0, .inr (.inl 4, true), .inl 0])])]) (spl := []) (K := [0, 1, 2]) (N := 17) (sums := [S58]) aiX0_join (abX0_join w0) (by decide) (List.forall_mem_cons.mpr ⟨sum_up q58 0, fun _ h => absurd h List.not_mem_nil⟩) (by decide +kernel)
noncomputable def S518 : Sum1 := (131, [cR 0, cI 0 7], [], [], [(70, 1, 1), (71, 1, 9)], [([cR 0, cI 0 7], [((70, 1), 1, 9)], [], none)])
theorem q518 : sum_g w0 (pm_Rt pm_P 3) S518 := meth_okB (d := 2) (cuts := [(18, [([(0, cR 0), (1, cI 0 7), (2, cI 0 7)], [], [((15, 0), 0, 8), ((70, 1), 1, 9)], [], [.inl 0, .inr (.inl 2, true), .inl 0])])]) (spl := []) (K := [0, 1]) (N := 19) (sums := [S516, S517]) aiX8_joinFirst (abX8_joinFirst w0) (by decide) (List.forall_mem_cons.mpr ⟨sum_up q516 0, List.forall_mem_cons.mpr ⟨sum_up q517 0, fun _ h => absurd h List.not_mem_nil⟩⟩) (by decide +kernel)
noncomputable def S519 : Sum1 := (17, [cR 70, cI 0 9, cI 0 9], [], [], [], [([cR 70, cI 0 9, cI 0 9], [], [], some (.inl (cI 0 9)))])
theorem q519 : sum_g w0 (pm_Rt pm_P 1) S519 := meth_okB (d := 0) (cuts := [(8, [([(0, cR 70), (1, cI 0 9), (2, cI 0 9), (3, cI 0 9), (4, cI 0 511), (5, cI 1 10)], [], [], [], [.inl 0, .inr (.inl 5, true), .inl 0])])]) (spl := []) (K := [0, 1, 2]) (N := 33) (sums := []) aiX0_labelOf (abX0_labelOf w0) (by decide) (fun _ h => absurd h List.not_mem_nil) (by decide +kernel)
noncomputable def S520 : Sum1 := (133, [cR 0, cI (-2147483648) 2147483647], [], [], [(70, 1, 1), (71, 1, 9)], [([cR 0, cI (-2147483648) 2147483647], [], [], some (.inl (cI (-2) 9)))])
theorem q520 : sum_g w0 (pm_Rt pm_P 4) S520 := meth_okB (d := 3) (cuts := []) (spl := []) (K := [0, 1]) (N := 25) (sums := [S518, S519]) aiX8_label (abX8_label w0) (by decide) (List.forall_mem_cons.mpr ⟨sum_up q518 0, List.forall_mem_cons.mpr ⟨sum_up q519 2, fun _ h => absurd h List.not_mem_nil⟩⟩) (by decide +kernel)
noncomputable def S521 : Sum1 := (271, [cR 77, cI (-2147483648) 2147483647], [], [], [], [([cR 77, cI 0 7], [], [], some (.inl (cI 1 1))), ([cR 77, cI (-2147483648) 2147483647], [], [], some (.inl (cI 0 0)))])
theorem q521 : sum_g w0 (pm_Rt pm_P 2) S521 := meth_okB (d := 1) (cuts := []) (spl := []) (K := [0, 1]) (N := 13) (sums := [S113]) aiX9_isJoin (abX9_isJoin w0) (by decide) (List.forall_mem_cons.mpr ⟨sum_up q113 0, fun _ h => absurd h List.not_mem_nil⟩) (by decide +kernel)
noncomputable def S522 : Sum1 := (301, [cI 0 9, cI 0 9], [], [], [], [([cI 0 9, cI 0 9], [], [], some (.inl (cI 0 9)))])
theorem q522 : sum_g w0 (pm_Rt pm_P 1) S522 := meth_okB (d := 0) (cuts := []) (spl := []) (K := [0, 1]) (N := 7) (sums := []) aiX9_lessOf (abX9_lessOf w0) (by decide) (fun _ h => absurd h List.not_mem_nil) (by decide +kernel)
noncomputable def S523 : Sum1 := (313, [cI 0 9, cI 0 9], [], [], [], [([cI 0 9, cI 0 9], [], [], some (.inl (cI 0 9)))])
theorem q523 : sum_g w0 (pm_Rt pm_P 1) S523 := meth_okB (d := 0) (cuts := []) (spl := []) (K := [0, 1]) (N := 7) (sums := []) aiX9_moreOf (abX9_moreOf w0) (by decide) (fun _ h => absurd h List.not_mem_nil) (by decide +kernel)
noncomputable def S524 : Sum1 := (283, [cR 77, cI 0 9, cI 0 9], [], [], [(101, 1, 9)], [([cR 77, cI 0 9, cI 0 9], [], [], none)])
theorem q524 : sum_g w0 (pm_Rt pm_P 2) S524 := meth_okB (d := 1) (cuts := [(36, [([(0, cR 77), (1, cI 0 9), (2, cI 0 9), (3, cI 0 9), (4, cI 0 9), (5, cI 1 10)], [], [], [], [.inl 0, .inr (.inl 5, true), .inl 0])])]) (spl := []) (K := [0, 1, 2]) (N := 23) (sums := [S522, S523]) aiX9_joins0 (abX9_joins0 w0) (by decide) (List.forall_mem_cons.mpr ⟨sum_up q522 0, List.forall_mem_cons.mpr ⟨sum_up q523 0, fun _ h => absurd h List.not_mem_nil⟩⟩) (by decide +kernel)
noncomputable def S525 : Sum1 := (294, [cR 77, cI 0 0, cI 0 7], [], [], [(101, 0, 9)], [([cR 77, cI 0 0, cI 0 7], [], [], none)])
theorem q525 : sum_g w0 (pm_Rt pm_P 3) S525 := meth_okB (d := 2) (cuts := [(2, [([(0, cR 77), (1, cI 0 0), (2, cI 0 7), (3, cI 0 10)], [], [], [], [.inl 1, .inr (.inl 3, true), .inl 0])]), (23, [([(0, cR 77), (1, cI 0 0), (2, cI 0 7), (3, cI 0 7)], [], [], [], [.inl 0, .inr (.inl 3, true), .inl 0])])]) (spl := []) (K := [0, 1, 2]) (N := 30) (sums := [S524]) aiX9_laysBlocks (abX9_laysBlocks w0) (by decide) (List.forall_mem_cons.mpr ⟨sum_up q524 0, fun _ h => absurd h List.not_mem_nil⟩) (by decide +kernel)
noncomputable def S526 : Sum1 := (288, [cR 77, cI 0 9, cI 0 9], [], [], [], [([cR 77, cI 0 9, cI 0 9], [], [], some (.inl (cI 0 9)))])
theorem q526 : sum_g w0 (pm_Rt pm_P 2) S526 := meth_okB (d := 1) (cuts := [(39, [([(0, cR 77), (1, cI 0 9), (2, cI 0 9), (3, cI 0 9), (4, cI 0 9), (5, cI 0 9), (6, cI 0 9)], [], [], [], [.inl 0, .inr (.inl 6, true), .inl 0])])]) (spl := []) (K := [0, 1, 2]) (N := 25) (sums := [S522, S523]) aiX9_labelOf (abX9_labelOf w0) (by decide) (List.forall_mem_cons.mpr ⟨sum_up q522 0, List.forall_mem_cons.mpr ⟨sum_up q523 0, fun _ h => absurd h List.not_mem_nil⟩⟩) (by decide +kernel)
end
