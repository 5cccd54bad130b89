section
/-! the rows are sound (written by tab2.py) -/
theorem oJ0_charAt_5068e_0 : pm_okF cJ0_charAt_5068e RJ0 2 false 0 (s_al 0 1) := k_aload_n (dk_aload_n_0 (by decide +kernel : bk1 cJ0_charAt_5068e 0 42 = true)) rfl
theorem oJ0_charAt_5068e_1 : ∃ I : pm_M, pm_at pm_P 3 = some I ∧ I.2.2.2.2.2.1 = 0 ∧ I.2.2.2.2.2.2.1 = 0 ∧ pm_okC cJ0_charAt_5068e RJ0 2 false 1 I.1 I.2.1 I.2.2.1 I.2.2.2.1 1 (some 100) 0 0 := ⟨iJ0_isLatin1_aae02, aiJ0_isLatin1_aae02, rfl, rfl, k_callVX (n := 0) rfl (dk_invokevirtual (by decide +kernel : bk3 cJ0_charAt_5068e 1 182 492 = true)) (wk7 wb_2_132) (wk4 wb_2_132) (wk5 wb_2_132) (wk6 wb_2_132) (wk10 wb_1_1) (by decide +kernel) (by decide)⟩
theorem oJ0_charAt_5068e_4 : pm_okF cJ0_charAt_5068e RJ0 2 false 4 (s_if (fun x => decide (x = 0)) 16 7) := k_if_eq (dk_ifCond_eq (by decide +kernel : bkS cJ0_charAt_5068e 4 153 12 = true)) (by decide)
theorem oJ0_charAt_5068e_7 : pm_okF cJ0_charAt_5068e RJ0 2 false 7 (s_al 0 8) := k_aload_n (dk_aload_n_0 (by decide +kernel : bk1 cJ0_charAt_5068e 7 42 = true)) rfl
theorem oJ0_charAt_5068e_8 : pm_okF cJ0_charAt_5068e RJ0 2 false 8 (s_sval 11) := k_sval (wk1 wb_9_57) (dk_getfield (by decide +kernel : bk3 cJ0_charAt_5068e 8 180 9 = true))
theorem oJ0_charAt_5068e_11 : pm_okF cJ0_charAt_5068e RJ0 2 false 11 (s_il 1 12) := k_iload_n (dk_iload_n_1 (by decide +kernel : bk1 cJ0_charAt_5068e 11 27 = true)) rfl
theorem oJ0_charAt_5068e_12 : ∃ I : pm_M, pm_at pm_P 5 = some I ∧ I.2.2.2.2.2.1 = 0 ∧ I.2.2.2.2.2.2.1 = 0 ∧ pm_okC cJ0_charAt_5068e RJ0 2 false 12 I.1 I.2.1 I.2.2.1 I.2.2.2.1 2 (none) 0 0 := ⟨iJ1_charAt_3b067, aiJ1_charAt_3b067, rfl, rfl, k_callS (n := 2) (dk_invokestatic (by decide +kernel : bk3 cJ0_charAt_5068e 12 184 495 = true)) (wk10 wb_2_132) (wk8 wb_2_132) (wk9 wb_2_132) (wk11 wb_1_1) (by decide +kernel) (by decide)⟩
theorem oJ0_charAt_5068e_15 : pm_okR cJ0_charAt_5068e (some .char) 15 5 := ⟨rfl, (dk_ireturn (by decide +kernel : bk1 cJ0_charAt_5068e 15 172 = true))⟩
theorem oJ0_charAt_5068e_16 : pm_okF cJ0_charAt_5068e RJ0 2 false 16 (s_al 0 17) := k_aload_n (dk_aload_n_0 (by decide +kernel : bk1 cJ0_charAt_5068e 16 42 = true)) rfl
theorem oJ0_charAt_5068e_17 : pm_okF cJ0_charAt_5068e RJ0 2 false 17 (s_sval 20) := k_sval (wk1 wb_9_57) (dk_getfield (by decide +kernel : bk3 cJ0_charAt_5068e 17 180 9 = true))
theorem oJ0_charAt_5068e_20 : pm_okF cJ0_charAt_5068e RJ0 2 false 20 (s_il 1 21) := k_iload_n (dk_iload_n_1 (by decide +kernel : bk1 cJ0_charAt_5068e 20 27 = true)) rfl
theorem oJ0_charAt_5068e_24 : pm_okR cJ0_charAt_5068e (some .char) 24 5 := ⟨rfl, (dk_ireturn (by decide +kernel : bk1 cJ0_charAt_5068e 24 172 = true))⟩
set_option maxRecDepth 20000 in
theorem oJ0_charAt_5068e : pm_okM pm_P iJ0_charAt_5068e := ⟨(by decide +kernel), (fun h => by cases h), List.forall_mem_cons.mpr ⟨oJ0_charAt_5068e_0, List.forall_mem_cons.mpr ⟨oJ0_charAt_5068e_1, List.forall_mem_cons.mpr ⟨oJ0_charAt_5068e_4, List.forall_mem_cons.mpr ⟨oJ0_charAt_5068e_7, List.forall_mem_cons.mpr ⟨oJ0_charAt_5068e_8, List.forall_mem_cons.mpr ⟨oJ0_charAt_5068e_11, List.forall_mem_cons.mpr ⟨oJ0_charAt_5068e_12, List.forall_mem_cons.mpr ⟨oJ0_charAt_5068e_15, List.forall_mem_cons.mpr ⟨oJ0_charAt_5068e_16, List.forall_mem_cons.mpr ⟨oJ0_charAt_5068e_17, List.forall_mem_cons.mpr ⟨oJ0_charAt_5068e_20, List.forall_mem_cons.mpr ⟨oJ0_charAt_5068e_24, fun _ h => absurd h List.not_mem_nil⟩⟩⟩⟩⟩⟩⟩⟩⟩⟩⟩⟩⟩
theorem oJ0_checkIndex_df160_0 : pm_okF cJ0_checkIndex_df160 RJ0 2 false 0 (s_il 0 1) := k_iload_n (dk_iload_n_0 (by decide +kernel : bk1 cJ0_checkIndex_df160 0 26 = true)) rfl
theorem oJ0_checkIndex_df160_1 : pm_okF cJ0_checkIndex_df160 RJ0 2 false 1 (s_il 1 2) := k_iload_n (dk_iload_n_1 (by decide +kernel : bk1 cJ0_checkIndex_df160 1 27 = true)) rfl
theorem oJ0_checkIndex_df160_2 : pm_okF cJ0_checkIndex_df160 RJ0 2 false 2 (s_const (.retAddr 3) 5) := k_gets_fm (wk14 wb_2_132) (dk_getstatic (by decide +kernel : bk3 cJ0_checkIndex_df160 2 178 1053 = true))
theorem oJ0_checkIndex_df160_5 : ∃ I : pm_M, pm_at pm_P 6 = some I ∧ I.2.2.2.2.2.1 = 0 ∧ I.2.2.2.2.2.2.1 = 0 ∧ pm_okC cJ0_checkIndex_df160 RJ0 2 false 5 I.1 I.2.1 I.2.2.1 I.2.2.2.1 3 (none) 0 0 := ⟨iJ3_checkIndex_8e157, aiJ3_checkIndex_8e157, rfl, rfl, k_callS (n := 3) (dk_invokestatic (by decide +kernel : bk3 cJ0_checkIndex_df160 5 184 1059 = true)) (wk2 wb_2_148) (wk0 wb_2_148) (wk1 wb_2_148) (wk12 wb_1_1) (by decide +kernel) (by decide)⟩
theorem oJ0_checkIndex_df160_8 : pm_okF cJ0_checkIndex_df160 RJ0 2 false 8 (s_pop 9) := k_pop (dk_pop (by decide +kernel : bk1 cJ0_checkIndex_df160 8 87 = true))
theorem oJ0_checkIndex_df160_9 : pm_okR cJ0_checkIndex_df160 none 9 0 := ⟨rfl, (dk_return (by decide +kernel : bk1 cJ0_checkIndex_df160 9 177 = true))⟩
set_option maxRecDepth 20000 in
theorem oJ0_checkIndex_df160 : pm_okM pm_P iJ0_checkIndex_df160 := ⟨(by decide +kernel), (fun h => by cases h), List.forall_mem_cons.mpr ⟨oJ0_checkIndex_df160_0, List.forall_mem_cons.mpr ⟨oJ0_checkIndex_df160_1, List.forall_mem_cons.mpr ⟨oJ0_checkIndex_df160_2, List.forall_mem_cons.mpr ⟨oJ0_checkIndex_df160_5, List.forall_mem_cons.mpr ⟨oJ0_checkIndex_df160_8, List.forall_mem_cons.mpr ⟨oJ0_checkIndex_df160_9, fun _ h => absurd h List.not_mem_nil⟩⟩⟩⟩⟩⟩⟩
theorem oJ0_coder_7d493_0 : pm_okF cJ0_coder_7d493 RJ0 1 false 0 (s_const (.int 1) 3) := k_gets_cs (wk10 wb_2_120) (dk_getstatic (by decide +kernel : bk3 cJ0_coder_7d493 0 178 38 = true))
theorem oJ0_coder_7d493_3 : pm_okF cJ0_coder_7d493 RJ0 1 false 3 (s_if (fun x => decide (x = 0)) 13 6) := k_if_eq (dk_ifCond_eq (by decide +kernel : bkS cJ0_coder_7d493 3 153 10 = true)) (by decide)
theorem oJ0_coder_7d493_6 : pm_okF cJ0_coder_7d493 RJ0 1 false 6 (s_al 0 7) := k_aload_n (dk_aload_n_0 (by decide +kernel : bk1 cJ0_coder_7d493 6 42 = true)) rfl
theorem oJ0_coder_7d493_7 : pm_okF cJ0_coder_7d493 RJ0 1 false 7 (s_scod 10) := k_scod (wk2 wb_9_57) (dk_getfield (by decide +kernel : bk3 cJ0_coder_7d493 7 180 15 = true))
theorem oJ0_coder_7d493_10 : pm_okF cJ0_coder_7d493 RJ0 1 false 10 (s_goto 14) := k_goto (dk_goto (by decide +kernel : bkS cJ0_coder_7d493 10 167 4 = true)) (by decide)
theorem oJ0_coder_7d493_13 : pm_okF cJ0_coder_7d493 RJ0 1 false 13 (s_const (.int 1) 14) := k_iconst (dk_iconst_1 (by decide +kernel : bk1 cJ0_coder_7d493 13 4 = true)) (by decide)
theorem oJ0_coder_7d493_14 : pm_okR cJ0_coder_7d493 (some .byte) 14 4 := ⟨rfl, (dk_ireturn (by decide +kernel : bk1 cJ0_coder_7d493 14 172 = true))⟩
set_option maxRecDepth 20000 in
theorem oJ0_coder_7d493 : pm_okM pm_P iJ0_coder_7d493 := ⟨(by decide +kernel), (fun h => by cases h), List.forall_mem_cons.mpr ⟨oJ0_coder_7d493_0, List.forall_mem_cons.mpr ⟨oJ0_coder_7d493_3, List.forall_mem_cons.mpr ⟨oJ0_coder_7d493_6, List.forall_mem_cons.mpr ⟨oJ0_coder_7d493_7, List.forall_mem_cons.mpr ⟨oJ0_coder_7d493_10, List.forall_mem_cons.mpr ⟨oJ0_coder_7d493_13, List.forall_mem_cons.mpr ⟨oJ0_coder_7d493_14, fun _ h => absurd h List.not_mem_nil⟩⟩⟩⟩⟩⟩⟩⟩
theorem oJ0_isLatin1_aae02_0 : pm_okF cJ0_isLatin1_aae02 RJ0 1 false 0 (s_const (.int 1) 3) := k_gets_cs (wk10 wb_2_120) (dk_getstatic (by decide +kernel : bk3 cJ0_isLatin1_aae02 0 178 38 = true))
theorem oJ0_isLatin1_aae02_3 : pm_okF cJ0_isLatin1_aae02 RJ0 1 false 3 (s_if (fun x => decide (x = 0)) 17 6) := k_if_eq (dk_ifCond_eq (by decide +kernel : bkS cJ0_isLatin1_aae02 3 153 14 = true)) (by decide)
theorem oJ0_isLatin1_aae02_6 : pm_okF cJ0_isLatin1_aae02 RJ0 1 false 6 (s_al 0 7) := k_aload_n (dk_aload_n_0 (by decide +kernel : bk1 cJ0_isLatin1_aae02 6 42 = true)) rfl
theorem oJ0_isLatin1_aae02_7 : pm_okF cJ0_isLatin1_aae02 RJ0 1 false 7 (s_scod 10) := k_scod (wk2 wb_9_57) (dk_getfield (by decide +kernel : bk3 cJ0_isLatin1_aae02 7 180 15 = true))
theorem oJ0_isLatin1_aae02_10 : pm_okF cJ0_isLatin1_aae02 RJ0 1 false 10 (s_if (fun x => decide (¬ x = 0)) 17 13) := k_if_ne (dk_ifCond_ne (by decide +kernel : bkS cJ0_isLatin1_aae02 10 154 7 = true)) (by decide)
theorem oJ0_isLatin1_aae02_13 : pm_okF cJ0_isLatin1_aae02 RJ0 1 false 13 (s_const (.int 1) 14) := k_iconst (dk_iconst_1 (by decide +kernel : bk1 cJ0_isLatin1_aae02 13 4 = true)) (by decide)
theorem oJ0_isLatin1_aae02_14 : pm_okF cJ0_isLatin1_aae02 RJ0 1 false 14 (s_goto 18) := k_goto (dk_goto (by decide +kernel : bkS cJ0_isLatin1_aae02 14 167 4 = true)) (by decide)
theorem oJ0_isLatin1_aae02_17 : pm_okF cJ0_isLatin1_aae02 RJ0 1 false 17 (s_const (.int 0) 18) := k_iconst (dk_iconst_0 (by decide +kernel : bk1 cJ0_isLatin1_aae02 17 3 = true)) (by decide)
theorem oJ0_isLatin1_aae02_18 : pm_okR cJ0_isLatin1_aae02 (some .boolean) 18 2 := ⟨rfl, (dk_ireturn (by decide +kernel : bk1 cJ0_isLatin1_aae02 18 172 = true))⟩
set_option maxRecDepth 20000 in
theorem oJ0_isLatin1_aae02 : pm_okM pm_P iJ0_isLatin1_aae02 := ⟨(by decide +kernel), (fun h => by cases h), List.forall_mem_cons.mpr ⟨oJ0_isLatin1_aae02_0, List.forall_mem_cons.mpr ⟨oJ0_isLatin1_aae02_3, List.forall_mem_cons.mpr ⟨oJ0_isLatin1_aae02_6, List.forall_mem_cons.mpr ⟨oJ0_isLatin1_aae02_7, List.forall_mem_cons.mpr ⟨oJ0_isLatin1_aae02_10, List.forall_mem_cons.mpr ⟨oJ0_isLatin1_aae02_13, List.forall_mem_cons.mpr ⟨oJ0_isLatin1_aae02_14, List.forall_mem_cons.mpr ⟨oJ0_isLatin1_aae02_17, List.forall_mem_cons.mpr ⟨oJ0_isLatin1_aae02_18, fun _ h => absurd h List.not_mem_nil⟩⟩⟩⟩⟩⟩⟩⟩⟩⟩
theorem oJ0_length_8abf5_0 : pm_okF cJ0_length_8abf5 RJ0 1 false 0 (s_al 0 1) := k_aload_n (dk_aload_n_0 (by decide +kernel : bk1 cJ0_length_8abf5 0 42 = true)) rfl
theorem oJ0_length_8abf5_1 : pm_okF cJ0_length_8abf5 RJ0 1 false 1 (s_sval 4) := k_sval (wk1 wb_9_57) (dk_getfield (by decide +kernel : bk3 cJ0_length_8abf5 1 180 9 = true))
theorem oJ0_length_8abf5_4 : pm_okF cJ0_length_8abf5 RJ0 1 false 4 (s_sblen 5) := k_sblen (dk_arraylength (by decide +kernel : bk1 cJ0_length_8abf5 4 190 = true))
theorem oJ0_length_8abf5_5 : pm_okF cJ0_length_8abf5 RJ0 1 false 5 (s_al 0 6) := k_aload_n (dk_aload_n_0 (by decide +kernel : bk1 cJ0_length_8abf5 5 42 = true)) rfl
theorem oJ0_length_8abf5_6 : ∃ I : pm_M, pm_at pm_P 2 = some I ∧ I.2.2.2.2.2.1 = 0 ∧ I.2.2.2.2.2.2.1 = 0 ∧ pm_okC cJ0_length_8abf5 RJ0 1 false 6 I.1 I.2.1 I.2.2.1 I.2.2.2.1 1 (some 100) 0 0 := ⟨iJ0_coder_7d493, aiJ0_coder_7d493, rfl, rfl, k_callVX (n := 0) rfl (dk_invokevirtual (by decide +kernel : bk3 cJ0_length_8abf5 6 182 335 = true)) (wk9 wb_2_120) (wk6 wb_2_120) (wk7 wb_2_120) (wk8 wb_2_120) (wk10 wb_1_1) (by decide +kernel) (by decide)⟩
theorem oJ0_length_8abf5_9 : pm_okF cJ0_length_8abf5 RJ0 1 false 9 (s_bin (fun x y => x >>> (y &&& 31)) 10) := k_ishr (dk_ishr (by decide +kernel : bk1 cJ0_length_8abf5 9 122 = true))
theorem oJ0_length_8abf5_10 : pm_okR cJ0_length_8abf5 (some .int) 10 1 := ⟨rfl, (dk_ireturn (by decide +kernel : bk1 cJ0_length_8abf5 10 172 = true))⟩
set_option maxRecDepth 20000 in
theorem oJ0_length_8abf5 : pm_okM pm_P iJ0_length_8abf5 := ⟨(by decide +kernel), (fun h => by cases h), List.forall_mem_cons.mpr ⟨oJ0_length_8abf5_0, List.forall_mem_cons.mpr ⟨oJ0_length_8abf5_1, List.forall_mem_cons.mpr ⟨oJ0_length_8abf5_4, List.forall_mem_cons.mpr ⟨oJ0_length_8abf5_5, List.forall_mem_cons.mpr ⟨oJ0_length_8abf5_6, List.forall_mem_cons.mpr ⟨oJ0_length_8abf5_9, List.forall_mem_cons.mpr ⟨oJ0_length_8abf5_10, fun _ h => absurd h List.not_mem_nil⟩⟩⟩⟩⟩⟩⟩⟩
set_option maxRecDepth 20000 in
theorem oJ1_charAt_3b067 : pm_okM pm_P iJ1_charAt_3b067 := rows_F (kd := 5) (by decide +kernel) rfl (abJ1_charAt_3b067 w0) poRJ1_g pcRJ1_g rfl (by decide +kernel)
set_option maxRecDepth 20000 in
theorem oJ3_checkIndex_8e157 : pm_okM pm_P iJ3_checkIndex_8e157 := rows_F (kd := 1) (by decide +kernel) rfl (abJ3_checkIndex_8e157 w0) poRJ3_g pcRJ3_g rfl (by decide +kernel)
set_option maxRecDepth 20000 in
theorem oJ6_bitCount_0f7a4 : pm_okM pm_P iJ6_bitCount_0f7a4 := rows_F (kd := 1) (by decide +kernel) rfl (abJ6_bitCount_0f7a4 w0) poRJ6_g pcRJ6_g rfl (by decide +kernel)
theorem oJ9_abs_067f4_0 : pm_okF cJ9_abs_067f4 RJ9 2 false 0 (s_ll 0 1) := k_lload_n (dk_lload_n_0 (by decide +kernel : bk1 cJ9_abs_067f4 0 30 = true)) rfl
theorem oJ9_abs_067f4_1 : pm_okF cJ9_abs_067f4 RJ9 2 false 1 (s_const (.long 0) 2) := k_lconst (dk_lconst_0 (by decide +kernel : bk1 cJ9_abs_067f4 1 9 = true)) (by decide)
theorem oJ9_abs_067f4_2 : pm_okF cJ9_abs_067f4 RJ9 2 false 2 (s_lcmp 3) := k_lcmp (dk_lcmp (by decide +kernel : bk1 cJ9_abs_067f4 2 148 = true))
theorem oJ9_abs_067f4_3 : pm_okF cJ9_abs_067f4 RJ9 2 false 3 (s_if (fun x => decide (0 ≤ x)) 11 6) := k_if_ge (dk_ifCond_ge (by decide +kernel : bkS cJ9_abs_067f4 3 156 8 = true)) (by decide)
theorem oJ9_abs_067f4_6 : pm_okF cJ9_abs_067f4 RJ9 2 false 6 (s_ll 0 7) := k_lload_n (dk_lload_n_0 (by decide +kernel : bk1 cJ9_abs_067f4 6 30 = true)) rfl
theorem oJ9_abs_067f4_7 : pm_okF cJ9_abs_067f4 RJ9 2 false 7 (s_lun (fun x => -x) 8) := k_lneg (dk_lneg (by decide +kernel : bk1 cJ9_abs_067f4 7 117 = true))
theorem oJ9_abs_067f4_8 : pm_okF cJ9_abs_067f4 RJ9 2 false 8 (s_goto 12) := k_goto (dk_goto (by decide +kernel : bkS cJ9_abs_067f4 8 167 4 = true)) (by decide)
theorem oJ9_abs_067f4_11 : pm_okF cJ9_abs_067f4 RJ9 2 false 11 (s_ll 0 12) := k_lload_n (dk_lload_n_0 (by decide +kernel : bk1 cJ9_abs_067f4 11 30 = true)) rfl
theorem oJ9_abs_067f4_12 : pm_okR cJ9_abs_067f4 (some .long) 12 3 := ⟨rfl, (dk_lreturn (by decide +kernel : bk1 cJ9_abs_067f4 12 173 = true))⟩
set_option maxRecDepth 20000 in
theorem oJ9_abs_067f4 : pm_okM pm_P iJ9_abs_067f4 := ⟨nat_pf rfl (by decide +kernel), (fun h => by cases h), List.forall_mem_cons.mpr ⟨oJ9_abs_067f4_0, List.forall_mem_cons.mpr ⟨oJ9_abs_067f4_1, List.forall_mem_cons.mpr ⟨oJ9_abs_067f4_2, List.forall_mem_cons.mpr ⟨oJ9_abs_067f4_3, List.forall_mem_cons.mpr ⟨oJ9_abs_067f4_6, List.forall_mem_cons.mpr ⟨oJ9_abs_067f4_7, List.forall_mem_cons.mpr ⟨oJ9_abs_067f4_8, List.forall_mem_cons.mpr ⟨oJ9_abs_067f4_11, List.forall_mem_cons.mpr ⟨oJ9_abs_067f4_12, fun _ h => absurd h List.not_mem_nil⟩⟩⟩⟩⟩⟩⟩⟩⟩⟩
theorem oJ9_abs_0f7a4_0 : pm_okF cJ9_abs_0f7a4 RJ9 1 false 0 (s_il 0 1) := k_iload_n (dk_iload_n_0 (by decide +kernel : bk1 cJ9_abs_0f7a4 0 26 = true)) rfl
theorem oJ9_abs_0f7a4_1 : pm_okF cJ9_abs_0f7a4 RJ9 1 false 1 (s_if (fun x => decide (0 ≤ x)) 9 4) := k_if_ge (dk_ifCond_ge (by decide +kernel : bkS cJ9_abs_0f7a4 1 156 8 = true)) (by decide)
theorem oJ9_abs_0f7a4_4 : pm_okF cJ9_abs_0f7a4 RJ9 1 false 4 (s_il 0 5) := k_iload_n (dk_iload_n_0 (by decide +kernel : bk1 cJ9_abs_0f7a4 4 26 = true)) rfl
theorem oJ9_abs_0f7a4_5 : pm_okF cJ9_abs_0f7a4 RJ9 1 false 5 (s_un (fun x => -x) 6) := k_ineg (dk_ineg (by decide +kernel : bk1 cJ9_abs_0f7a4 5 116 = true))
theorem oJ9_abs_0f7a4_6 : pm_okF cJ9_abs_0f7a4 RJ9 1 false 6 (s_goto 10) := k_goto (dk_goto (by decide +kernel : bkS cJ9_abs_0f7a4 6 167 4 = true)) (by decide)
theorem oJ9_abs_0f7a4_9 : pm_okF cJ9_abs_0f7a4 RJ9 1 false 9 (s_il 0 10) := k_iload_n (dk_iload_n_0 (by decide +kernel : bk1 cJ9_abs_0f7a4 9 26 = true)) rfl
theorem oJ9_abs_0f7a4_10 : pm_okR cJ9_abs_0f7a4 (some .int) 10 1 := ⟨rfl, (dk_ireturn (by decide +kernel : bk1 cJ9_abs_0f7a4 10 172 = true))⟩
set_option maxRecDepth 20000 in
theorem oJ9_abs_0f7a4 : pm_okM pm_P iJ9_abs_0f7a4 := ⟨nat_pf rfl (by decide +kernel), (fun h => by cases h), List.forall_mem_cons.mpr ⟨oJ9_abs_0f7a4_0, List.forall_mem_cons.mpr ⟨oJ9_abs_0f7a4_1, List.forall_mem_cons.mpr ⟨oJ9_abs_0f7a4_4, List.forall_mem_cons.mpr ⟨oJ9_abs_0f7a4_5, List.forall_mem_cons.mpr ⟨oJ9_abs_0f7a4_6, List.forall_mem_cons.mpr ⟨oJ9_abs_0f7a4_9, List.forall_mem_cons.mpr ⟨oJ9_abs_0f7a4_10, fun _ h => absurd h List.not_mem_nil⟩⟩⟩⟩⟩⟩⟩⟩
theorem oJ9_max_7cf53_0 : pm_okF cJ9_max_7cf53 RJ9 2 false 0 (s_il 0 1) := k_iload_n (dk_iload_n_0 (by decide +kernel : bk1 cJ9_max_7cf53 0 26 = true)) rfl
theorem oJ9_max_7cf53_1 : pm_okF cJ9_max_7cf53 RJ9 2 false 1 (s_il 1 2) := k_iload_n (dk_iload_n_1 (by decide +kernel : bk1 cJ9_max_7cf53 1 27 = true)) rfl
theorem oJ9_max_7cf53_2 : pm_okF cJ9_max_7cf53 RJ9 2 false 2 (s_icmp (fun x y => decide (x < y)) 9 5) := k_icmp_lt (dk_if_icmp_lt (by decide +kernel : bkS cJ9_max_7cf53 2 161 7 = true)) (by decide)
theorem oJ9_max_7cf53_5 : pm_okF cJ9_max_7cf53 RJ9 2 false 5 (s_il 0 6) := k_iload_n (dk_iload_n_0 (by decide +kernel : bk1 cJ9_max_7cf53 5 26 = true)) rfl
theorem oJ9_max_7cf53_6 : pm_okF cJ9_max_7cf53 RJ9 2 false 6 (s_goto 10) := k_goto (dk_goto (by decide +kernel : bkS cJ9_max_7cf53 6 167 4 = true)) (by decide)
theorem oJ9_max_7cf53_9 : pm_okF cJ9_max_7cf53 RJ9 2 false 9 (s_il 1 10) := k_iload_n (dk_iload_n_1 (by decide +kernel : bk1 cJ9_max_7cf53 9 27 = true)) rfl
theorem oJ9_max_7cf53_10 : pm_okR cJ9_max_7cf53 (some .int) 10 1 := ⟨rfl, (dk_ireturn (by decide +kernel : bk1 cJ9_max_7cf53 10 172 = true))⟩
set_option maxRecDepth 20000 in
theorem oJ9_max_7cf53 : pm_okM pm_P iJ9_max_7cf53 := ⟨nat_pf rfl (by decide +kernel), (fun h => by cases h), List.forall_mem_cons.mpr ⟨oJ9_max_7cf53_0, List.forall_mem_cons.mpr ⟨oJ9_max_7cf53_1, List.forall_mem_cons.mpr ⟨oJ9_max_7cf53_2, List.forall_mem_cons.mpr ⟨oJ9_max_7cf53_5, List.forall_mem_cons.mpr ⟨oJ9_max_7cf53_6, List.forall_mem_cons.mpr ⟨oJ9_max_7cf53_9, List.forall_mem_cons.mpr ⟨oJ9_max_7cf53_10, fun _ h => absurd h List.not_mem_nil⟩⟩⟩⟩⟩⟩⟩⟩
theorem oJ9_min_7cf53_0 : pm_okF cJ9_min_7cf53 RJ9 2 false 0 (s_il 0 1) := k_iload_n (dk_iload_n_0 (by decide +kernel : bk1 cJ9_min_7cf53 0 26 = true)) rfl
theorem oJ9_min_7cf53_1 : pm_okF cJ9_min_7cf53 RJ9 2 false 1 (s_il 1 2) := k_iload_n (dk_iload_n_1 (by decide +kernel : bk1 cJ9_min_7cf53 1 27 = true)) rfl
theorem oJ9_min_7cf53_2 : pm_okF cJ9_min_7cf53 RJ9 2 false 2 (s_icmp (fun x y => decide (y < x)) 9 5) := k_icmp_gt (dk_if_icmp_gt (by decide +kernel : bkS cJ9_min_7cf53 2 163 7 = true)) (by decide)
theorem oJ9_min_7cf53_5 : pm_okF cJ9_min_7cf53 RJ9 2 false 5 (s_il 0 6) := k_iload_n (dk_iload_n_0 (by decide +kernel : bk1 cJ9_min_7cf53 5 26 = true)) rfl
theorem oJ9_min_7cf53_6 : pm_okF cJ9_min_7cf53 RJ9 2 false 6 (s_goto 10) := k_goto (dk_goto (by decide +kernel : bkS cJ9_min_7cf53 6 167 4 = true)) (by decide)
theorem oJ9_min_7cf53_9 : pm_okF cJ9_min_7cf53 RJ9 2 false 9 (s_il 1 10) := k_iload_n (dk_iload_n_1 (by decide +kernel : bk1 cJ9_min_7cf53 9 27 = true)) rfl
theorem oJ9_min_7cf53_10 : pm_okR cJ9_min_7cf53 (some .int) 10 1 := ⟨rfl, (dk_ireturn (by decide +kernel : bk1 cJ9_min_7cf53 10 172 = true))⟩
set_option maxRecDepth 20000 in
theorem oJ9_min_7cf53 : pm_okM pm_P iJ9_min_7cf53 := ⟨nat_pf rfl (by decide +kernel), (fun h => by cases h), List.forall_mem_cons.mpr ⟨oJ9_min_7cf53_0, List.forall_mem_cons.mpr ⟨oJ9_min_7cf53_1, List.forall_mem_cons.mpr ⟨oJ9_min_7cf53_2, List.forall_mem_cons.mpr ⟨oJ9_min_7cf53_5, List.forall_mem_cons.mpr ⟨oJ9_min_7cf53_6, List.forall_mem_cons.mpr ⟨oJ9_min_7cf53_9, List.forall_mem_cons.mpr ⟨oJ9_min_7cf53_10, fun _ h => absurd h List.not_mem_nil⟩⟩⟩⟩⟩⟩⟩⟩
set_option maxRecDepth 20000 in
theorem oX0_crosses : pm_okM pm_P iX0_crosses := rows_F (kd := 2) (plainFor_of_name pnRX0) rfl (abX0_crosses w0) poRX0_g pcRX0_g rfl (by decide +kernel)
theorem oX0_init_0 : pm_okF cX0_init RX0 1 true 0 (s_al 0 1) := k_aload_n (dk_aload_n_0 (by decide +kernel : bk1 cX0_init 0 42 = true)) rfl
theorem oX0_init_1 : pm_okF cX0_init RX0 1 true 1 (s_obj 4) := k_obj (wk7 wb_1_117) (wk9 wb_1_15) (wk10 wb_1_15) (dk_invokespecial (by decide +kernel : bk3 cX0_init 1 183 3 = true))
theorem oX0_init_4 : pm_okF cX0_init RX0 1 true 4 (s_al 0 5) := k_aload_n (dk_aload_n_0 (by decide +kernel : bk1 cX0_init 4 42 = true)) rfl
theorem oX0_init_5 : pm_okF cX0_init RX0 1 true 5 (s_const (.int 10) 7) := k_bipush (dk_bipush (by decide +kernel : bkB cX0_init 5 16 10 = true)) (by decide)
theorem oX0_init_7 : pm_okF cX0_init RX0 1 true 7 (s_newa 0 (.inl (fun _ => 0)) 9) := k_newa_int (by decide +kernel : decode cX0_init 7 = .ok (.newarray .int, 2))
theorem oX0_init_9 : pm_okF cX0_init RX0 1 true 9 (s_putf 0 0 (.array .int) 12) := k_putF (C := RX0) (T := TX0) (N := 2) rfl inX0 tyX0_ok nmX0 (by decide) rfl rfl rfl (wk8 wb_1_117) (dk_putfield (by decide +kernel : bk3 cX0_init 9 181 9 = true))
theorem oX0_init_12 : pm_okR cX0_init none 12 0 := ⟨rfl, (dk_return (by decide +kernel : bk1 cX0_init 12 177 = true))⟩
set_option maxRecDepth 20000 in
theorem oX0_init : pm_okM pm_P iX0_init := ⟨rfl, fun _ => rfl, List.forall_mem_cons.mpr ⟨oX0_init_0, List.forall_mem_cons.mpr ⟨oX0_init_1, List.forall_mem_cons.mpr ⟨oX0_init_4, List.forall_mem_cons.mpr ⟨oX0_init_5, List.forall_mem_cons.mpr ⟨oX0_init_7, List.forall_mem_cons.mpr ⟨oX0_init_9, List.forall_mem_cons.mpr ⟨oX0_init_12, fun _ h => absurd h List.not_mem_nil⟩⟩⟩⟩⟩⟩⟩⟩
set_option maxRecDepth 20000 in
theorem oX0_isLeast : pm_okM pm_P iX0_isLeast := rows_F (kd := 2) (plainFor_of_name pnRX0) rfl (abX0_isLeast w0) poRX0_g pcRX0_g rfl (by decide +kernel)
set_option maxRecDepth 20000 in
theorem oX0_join : pm_okM pm_P iX0_join := rows_F (kd := 0) (plainFor_of_name pnRX0) rfl (abX0_join w0) poRX0_g pcRX0_g rfl (by decide +kernel)
set_option maxRecDepth 20000 in
theorem oX0_joinable : pm_okM pm_P iX0_joinable := rows_F (kd := 2) (plainFor_of_name pnRX0) rfl (abX0_joinable w0) poRX0_g pcRX0_g rfl (by decide +kernel)
set_option maxRecDepth 20000 in
theorem oX0_labelOf : pm_okM pm_P iX0_labelOf := rows_F (kd := 1) (plainFor_of_name pnRX0) rfl (abX0_labelOf w0) poRX0_g pcRX0_g rfl (by decide +kernel)
set_option maxRecDepth 20000 in
theorem oX0_start : pm_okM pm_P iX0_start := rows_F (kd := 0) (plainFor_of_name pnRX0) rfl (abX0_start w0) poRX0_g pcRX0_g rfl (by decide +kernel)
set_option maxRecDepth 20000 in
theorem oX1_come : pm_okM pm_P iX1_come := rows_F (kd := 0) (plainFor_of_name pnRX1) rfl (abX1_come w0) poRX1_g pcRX1_g rfl (by decide +kernel)
set_option maxRecDepth 20000 in
theorem oX1_fill : pm_okM pm_P iX1_fill := rows_F (kd := 0) (plainFor_of_name pnRX1) rfl (abX1_fill w0) poRX1_g pcRX1_g rfl (by decide +kernel)
set_option maxRecDepth 20000 in
theorem oX1_firstFree : pm_okM pm_P iX1_firstFree := rows_F (kd := 1) (plainFor_of_name pnRX1) rfl (abX1_firstFree w0) poRX1_g pcRX1_g rfl (by decide +kernel)
theorem oX1_init_0 : pm_okF cX1_init RX1 1 true 0 (s_al 0 1) := k_aload_n (dk_aload_n_0 (by decide +kernel : bk1 cX1_init 0 42 = true)) rfl
theorem oX1_init_1 : pm_okF cX1_init RX1 1 true 1 (s_obj 4) := k_obj (wk6 wb_1_194) (wk9 wb_1_15) (wk10 wb_1_15) (dk_invokespecial (by decide +kernel : bk3 cX1_init 1 183 3 = true))
theorem oX1_init_4 : pm_okF cX1_init RX1 1 true 4 (s_al 0 5) := k_aload_n (dk_aload_n_0 (by decide +kernel : bk1 cX1_init 4 42 = true)) rfl
theorem oX1_init_5 : pm_okF cX1_init RX1 1 true 5 (s_const (.int 8) 7) := k_bipush (dk_bipush (by decide +kernel : bkB cX1_init 5 16 8 = true)) (by decide)
theorem oX1_init_7 : pm_okF cX1_init RX1 1 true 7 (s_newa 0 (.inl (fun _ => 0)) 9) := k_newa_int (by decide +kernel : decode cX1_init 7 = .ok (.newarray .int, 2))
theorem oX1_init_9 : pm_okF cX1_init RX1 1 true 9 (s_putf 1 0 (.array .int) 12) := k_putF (C := RX1) (T := TX1) (N := 4) rfl inX1 tyX1_ok nmX1 (by decide) rfl rfl rfl (wk7 wb_1_194) (dk_putfield (by decide +kernel : bk3 cX1_init 9 181 9 = true))
theorem oX1_init_12 : pm_okR cX1_init none 12 0 := ⟨rfl, (dk_return (by decide +kernel : bk1 cX1_init 12 177 = true))⟩
set_option maxRecDepth 20000 in
theorem oX1_init : pm_okM pm_P iX1_init := ⟨rfl, fun _ => rfl, List.forall_mem_cons.mpr ⟨oX1_init_0, List.forall_mem_cons.mpr ⟨oX1_init_1, List.forall_mem_cons.mpr ⟨oX1_init_4, List.forall_mem_cons.mpr ⟨oX1_init_5, List.forall_mem_cons.mpr ⟨oX1_init_7, List.forall_mem_cons.mpr ⟨oX1_init_9, List.forall_mem_cons.mpr ⟨oX1_init_12, fun _ h => absurd h List.not_mem_nil⟩⟩⟩⟩⟩⟩⟩⟩
set_option maxRecDepth 20000 in
theorem oX1_isFree : pm_okM pm_P iX1_isFree := rows_F (kd := 2) (plainFor_of_name pnRX1) rfl (abX1_isFree w0) poRX1_g pcRX1_g rfl (by decide +kernel)
set_option maxRecDepth 20000 in
theorem oX1_nearestFree : pm_okM pm_P iX1_nearestFree := rows_F (kd := 1) (plainFor_of_name pnRX1) rfl (abX1_nearestFree w0) poRX1_g pcRX1_g rfl (by decide +kernel)
set_option maxRecDepth 20000 in
theorem oX1_spotFor : pm_okM pm_P iX1_spotFor := rows_F (kd := 1) (plainFor_of_name pnRX1) rfl (abX1_spotFor w0) poRX1_g pcRX1_g rfl (by decide +kernel)
theorem oX2_init_0 : pm_okF cX2_init RX2 2 true 0 (s_al 0 1) := k_aload_n (dk_aload_n_0 (by decide +kernel : bk1 cX2_init 0 42 = true)) rfl
theorem oX2_init_1 : pm_okF cX2_init RX2 2 true 1 (s_obj 4) := k_obj (wk6 wb_1_42) (wk9 wb_1_15) (wk10 wb_1_15) (dk_invokespecial (by decide +kernel : bk3 cX2_init 1 183 3 = true))
theorem oX2_init_4 : pm_okF cX2_init RX2 2 true 4 (s_al 0 5) := k_aload_n (dk_aload_n_0 (by decide +kernel : bk1 cX2_init 4 42 = true)) rfl
theorem oX2_init_5 : pm_okF cX2_init RX2 2 true 5 (s_al 1 6) := k_aload_n (dk_aload_n_1 (by decide +kernel : bk1 cX2_init 5 43 = true)) rfl
theorem oX2_init_6 : pm_okF cX2_init RX2 2 true 6 (s_putf 2 3 (.object "ParkingTrees$Tape") 9) := k_putF (C := RX2) (T := TX2) (N := 10) rfl inX2 tyX2_ok nmX2 (by decide) rfl rfl rfl (wk6 wb_1_133) (dk_putfield (by decide +kernel : bk3 cX2_init 6 181 9 = true))
theorem oX2_init_9 : pm_okF cX2_init RX2 2 true 9 (s_al 0 10) := k_aload_n (dk_aload_n_0 (by decide +kernel : bk1 cX2_init 9 42 = true)) rfl
theorem oX2_init_10 : pm_okF cX2_init RX2 2 true 10 (s_new 5 dfX5 15 13) := k_new5 (wk7 wb_1_42) (dk_new (by decide +kernel : bk3 cX2_init 10 187 15 = true))
theorem oX2_init_13 : pm_okF cX2_init RX2 2 true 13 (s_dup 14) := k_dup (dk_dup (by decide +kernel : bk1 cX2_init 13 89 = true))
theorem oX2_init_14 : ∃ I : pm_M, pm_at pm_P 52 = some I ∧ I.2.2.2.2.2.1 = 8 ∧ I.2.2.2.2.2.2.1 = 100 ∧ pm_okC cX2_init RX2 2 true 14 I.1 I.2.1 I.2.2.1 I.2.2.2.1 1 (some 5) 8 100 := ⟨iX5_init, aiX5_init, rfl, rfl, k_callI (n := 0) (dk_invokespecial (by decide +kernel : bk3 cX2_init 14 183 17 = true)) (wk11 wb_1_42) (wk9 wb_1_42) (wk10 wb_1_42) (wk3 wb_1_1) rfl (by decide +kernel) (by decide) (by decide)⟩
theorem oX2_init_17 : pm_okF cX2_init RX2 2 true 17 (s_putf 2 0 (.object "ParkingTrees$Street") 20) := k_putF (C := RX2) (T := TX2) (N := 10) rfl inX2 tyX2_ok nmX2 (by decide) rfl rfl rfl (wk0 wb_1_133) (dk_putfield (by decide +kernel : bk3 cX2_init 17 181 18 = true))
theorem oX2_init_20 : pm_okF cX2_init RX2 2 true 20 (s_al 0 21) := k_aload_n (dk_aload_n_0 (by decide +kernel : bk1 cX2_init 20 42 = true)) rfl
theorem oX2_init_21 : pm_okF cX2_init RX2 2 true 21 (s_new 0 dfX0 2 24) := k_new0 (wk2 wb_1_117) (dk_new (by decide +kernel : bk3 cX2_init 21 187 22 = true))
theorem oX2_init_24 : pm_okF cX2_init RX2 2 true 24 (s_dup 25) := k_dup (dk_dup (by decide +kernel : bk1 cX2_init 24 89 = true))
theorem oX2_init_25 : ∃ I : pm_M, pm_at pm_P 13 = some I ∧ I.2.2.2.2.2.1 = 1 ∧ I.2.2.2.2.2.2.1 = 10 ∧ pm_okC cX2_init RX2 2 true 25 I.1 I.2.1 I.2.2.1 I.2.2.2.1 1 (some 0) 1 10 := ⟨iX0_init, aiX0_init, rfl, rfl, k_callI (n := 0) (dk_invokespecial (by decide +kernel : bk3 cX2_init 25 183 24 = true)) (wk6 wb_1_117) (wk4 wb_1_117) (wk5 wb_1_117) (wk4 wb_1_1) rfl (by decide +kernel) (by decide) (by decide)⟩
theorem oX2_init_28 : pm_okF cX2_init RX2 2 true 28 (s_putf 2 4 (.object "ParkingTrees$Blocks") 31) := k_putF (C := RX2) (T := TX2) (N := 10) rfl inX2 tyX2_ok nmX2 (by decide) rfl rfl rfl (wk7 wb_1_133) (dk_putfield (by decide +kernel : bk3 cX2_init 28 181 25 = true))
theorem oX2_init_31 : pm_okF cX2_init RX2 2 true 31 (s_al 0 32) := k_aload_n (dk_aload_n_0 (by decide +kernel : bk1 cX2_init 31 42 = true)) rfl
theorem oX2_init_32 : pm_okF cX2_init RX2 2 true 32 (s_const (.int (-1)) 33) := k_iconst (dk_iconst_m (by decide +kernel : bk1 cX2_init 32 2 = true)) (by decide)
theorem oX2_init_33 : pm_okF cX2_init RX2 2 true 33 (s_putf 2 2 (.int) 36) := k_putf (C := RX2) (T := TX2) (N := 10) rfl inX2 tyX2_ok nmX2 (by decide) rfl rfl (wk4 wb_1_133) (dk_putfield (by decide +kernel : bk3 cX2_init 33 181 29 = true))
theorem oX2_init_36 : pm_okR cX2_init none 36 0 := ⟨rfl, (dk_return (by decide +kernel : bk1 cX2_init 36 177 = true))⟩
set_option maxRecDepth 20000 in
theorem oX2_init : pm_okM pm_P iX2_init := ⟨rfl, fun _ => rfl, List.forall_mem_cons.mpr ⟨oX2_init_0, List.forall_mem_cons.mpr ⟨oX2_init_1, List.forall_mem_cons.mpr ⟨oX2_init_4, List.forall_mem_cons.mpr ⟨oX2_init_5, List.forall_mem_cons.mpr ⟨oX2_init_6, List.forall_mem_cons.mpr ⟨oX2_init_9, List.forall_mem_cons.mpr ⟨oX2_init_10, List.forall_mem_cons.mpr ⟨oX2_init_13, List.forall_mem_cons.mpr ⟨oX2_init_14, List.forall_mem_cons.mpr ⟨oX2_init_17, List.forall_mem_cons.mpr ⟨oX2_init_20, List.forall_mem_cons.mpr ⟨oX2_init_21, List.forall_mem_cons.mpr ⟨oX2_init_24, List.forall_mem_cons.mpr ⟨oX2_init_25, List.forall_mem_cons.mpr ⟨oX2_init_28, List.forall_mem_cons.mpr ⟨oX2_init_31, List.forall_mem_cons.mpr ⟨oX2_init_32, List.forall_mem_cons.mpr ⟨oX2_init_33, List.forall_mem_cons.mpr ⟨oX2_init_36, fun _ h => absurd h List.not_mem_nil⟩⟩⟩⟩⟩⟩⟩⟩⟩⟩⟩⟩⟩⟩⟩⟩⟩⟩⟩⟩
set_option maxRecDepth 20000 in
theorem oX2_isDigit : pm_okM pm_P iX2_isDigit := rows_F (kd := 2) (plainFor_of_name pnRX2) rfl (abX2_isDigit w0) poRX2_g pcRX2_g rfl (by decide +kernel)
set_option maxRecDepth 20000 in
theorem oX2_isLetter : pm_okM pm_P iX2_isLetter := rows_F (kd := 2) (plainFor_of_name pnRX2) rfl (abX2_isLetter w0) poRX2_g pcRX2_g rfl (by decide +kernel)
set_option maxRecDepth 20000 in
theorem oX2_isWord : pm_okM pm_P iX2_isWord := rows_F (kd := 2) (plainFor_of_name pnRX2) rfl (abX2_isWord w0) poRX2_g pcRX2_g rfl (by decide +kernel)
theorem oX2_readCar_0 : pm_okF cX2_readCar RX2 2 false 0 (s_al 0 1) := k_aload_n (dk_aload_n_0 (by decide +kernel : bk1 cX2_readCar 0 42 = true)) rfl
theorem oX2_readCar_1 : pm_okF cX2_readCar RX2 2 false 1 (s_getf 2 0 4) := k_getf (C := RX2) (T := TX2) (N := 10) rfl inX2 (by decide) (wk0 wb_1_133) (dk_getfield (by decide +kernel : bk3 cX2_readCar 1 180 18 = true))
theorem oX2_readCar_4 : pm_okF cX2_readCar RX2 2 false 4 (s_getf 5 4 7) := k_getf (C := RX5) (T := TX5) (N := 15) rfl inX5 (by decide) (wk10 wb_1_58) (dk_getfield (by decide +kernel : bk3 cX2_readCar 4 180 101 = true))
theorem oX2_readCar_7 : pm_okF cX2_readCar RX2 2 false 7 (s_al 0 8) := k_aload_n (dk_aload_n_0 (by decide +kernel : bk1 cX2_readCar 7 42 = true)) rfl
theorem oX2_readCar_8 : pm_okF cX2_readCar RX2 2 false 8 (s_getf 2 0 11) := k_getf (C := RX2) (T := TX2) (N := 10) rfl inX2 (by decide) (wk0 wb_1_133) (dk_getfield (by decide +kernel : bk3 cX2_readCar 8 180 18 = true))
theorem oX2_readCar_11 : pm_okF cX2_readCar RX2 2 false 11 (s_getf 5 0 14) := k_getf (C := RX5) (T := TX5) (N := 15) rfl inX5 (by decide) (wk14 wb_1_42) (dk_getfield (by decide +kernel : bk3 cX2_readCar 11 180 87 = true))
theorem oX2_readCar_14 : pm_okF cX2_readCar RX2 2 false 14 (s_icmp (fun x y => decide (x < y)) 23 17) := k_icmp_lt (dk_if_icmp_lt (by decide +kernel : bkS cX2_readCar 14 161 9 = true)) (by decide)
theorem oX2_readCar_17 : pm_okF cX2_readCar RX2 2 false 17 (s_al 0 18) := k_aload_n (dk_aload_n_0 (by decide +kernel : bk1 cX2_readCar 17 42 = true)) rfl
theorem oX2_readCar_18 : pm_okF cX2_readCar RX2 2 false 18 (s_const (.int 3) 19) := k_iconst (dk_iconst_3 (by decide +kernel : bk1 cX2_readCar 18 6 = true)) (by decide)
theorem oX2_readCar_19 : ∃ I : pm_M, pm_at pm_P 38 = some I ∧ I.2.2.2.2.2.1 = 0 ∧ I.2.2.2.2.2.2.1 = 0 ∧ pm_okC cX2_readCar RX2 2 false 19 I.1 I.2.1 I.2.2.1 I.2.2.2.1 2 (some 2) 0 0 := ⟨iX2_refuse, aiX2_refuse, rfl, rfl, k_callV (n := 1) (T := TX2) (N := 10) (dk_invokevirtual (by decide +kernel : bk3 cX2_readCar 19 182 104 = true)) rfl (wk1 wb_2_172) (wk0 wb_2_170) (wk0 wb_2_172) (wk7 wb_0_0) (wk2 wb_1_1) (by decide +kernel) (by decide) (by decide)⟩
theorem oX2_readCar_22 : pm_okR cX2_readCar (some .boolean) 22 2 := ⟨rfl, (dk_ireturn (by decide +kernel : bk1 cX2_readCar 22 172 = true))⟩
theorem oX2_readCar_23 : pm_okF cX2_readCar RX2 2 false 23 (s_al 0 24) := k_aload_n (dk_aload_n_0 (by decide +kernel : bk1 cX2_readCar 23 42 = true)) rfl
theorem oX2_readCar_24 : pm_okF cX2_readCar RX2 2 false 24 (s_const (.retAddr 8) 26) := k_ldcs (i := 4) (by decide) rfl (dk_ldc (by decide +kernel : bk2 cX2_readCar 24 18 61 = true))
theorem oX2_readCar_26 : ∃ I : pm_M, pm_at pm_P 41 = some I ∧ I.2.2.2.2.2.1 = 0 ∧ I.2.2.2.2.2.2.1 = 0 ∧ pm_okC cX2_readCar RX2 2 false 26 I.1 I.2.1 I.2.2.1 I.2.2.2.1 2 (some 2) 0 0 := ⟨iX2_takeWord, aiX2_takeWord, rfl, rfl, k_callV (n := 1) (T := TX2) (N := 10) (dk_invokevirtual (by decide +kernel : bk3 cX2_readCar 26 182 75 = true)) rfl (wk1 wb_2_116) (wk0 wb_2_114) (wk0 wb_2_116) (wk5 wb_0_0) (wk2 wb_1_1) (by decide +kernel) (by decide) (by decide)⟩
theorem oX2_readCar_29 : pm_okF cX2_readCar RX2 2 false 29 (s_if (fun x => decide (x = 0)) 56 32) := k_if_eq (dk_ifCond_eq (by decide +kernel : bkS cX2_readCar 29 153 27 = true)) (by decide)
theorem oX2_readCar_32 : pm_okF cX2_readCar RX2 2 false 32 (s_al 0 33) := k_aload_n (dk_aload_n_0 (by decide +kernel : bk1 cX2_readCar 32 42 = true)) rfl
theorem oX2_readCar_33 : pm_okF cX2_readCar RX2 2 false 33 (s_const (.retAddr 9) 35) := k_ldcs (i := 5) (by decide) rfl (dk_ldc (by decide +kernel : bk2 cX2_readCar 33 18 108 = true))
theorem oX2_readCar_35 : ∃ I : pm_M, pm_at pm_P 41 = some I ∧ I.2.2.2.2.2.1 = 0 ∧ I.2.2.2.2.2.2.1 = 0 ∧ pm_okC cX2_readCar RX2 2 false 35 I.1 I.2.1 I.2.2.1 I.2.2.2.1 2 (some 2) 0 0 := ⟨iX2_takeWord, aiX2_takeWord, rfl, rfl, k_callV (n := 1) (T := TX2) (N := 10) (dk_invokevirtual (by decide +kernel : bk3 cX2_readCar 35 182 75 = true)) rfl (wk1 wb_2_116) (wk0 wb_2_114) (wk0 wb_2_116) (wk5 wb_0_0) (wk2 wb_1_1) (by decide +kernel) (by decide) (by decide)⟩
theorem oX2_readCar_38 : pm_okF cX2_readCar RX2 2 false 38 (s_if (fun x => decide (x = 0)) 56 41) := k_if_eq (dk_ifCond_eq (by decide +kernel : bkS cX2_readCar 38 153 18 = true)) (by decide)
theorem oX2_readCar_41 : pm_okF cX2_readCar RX2 2 false 41 (s_al 0 42) := k_aload_n (dk_aload_n_0 (by decide +kernel : bk1 cX2_readCar 41 42 = true)) rfl
theorem oX2_readCar_42 : pm_okF cX2_readCar RX2 2 false 42 (s_const (.int 1) 43) := k_iconst (dk_iconst_1 (by decide +kernel : bk1 cX2_readCar 42 4 = true)) (by decide)
theorem oX2_readCar_43 : pm_okF cX2_readCar RX2 2 false 43 (s_al 0 44) := k_aload_n (dk_aload_n_0 (by decide +kernel : bk1 cX2_readCar 43 42 = true)) rfl
theorem oX2_readCar_44 : pm_okF cX2_readCar RX2 2 false 44 (s_getf 2 0 47) := k_getf (C := RX2) (T := TX2) (N := 10) rfl inX2 (by decide) (wk0 wb_1_133) (dk_getfield (by decide +kernel : bk3 cX2_readCar 44 180 18 = true))
theorem oX2_readCar_47 : pm_okF cX2_readCar RX2 2 false 47 (s_getf 5 0 50) := k_getf (C := RX5) (T := TX5) (N := 15) rfl inX5 (by decide) (wk14 wb_1_42) (dk_getfield (by decide +kernel : bk3 cX2_readCar 47 180 87 = true))
theorem oX2_readCar_50 : ∃ I : pm_M, pm_at pm_P 39 = some I ∧ I.2.2.2.2.2.1 = 0 ∧ I.2.2.2.2.2.2.1 = 0 ∧ pm_okC cX2_readCar RX2 2 false 50 I.1 I.2.1 I.2.2.1 I.2.2.2.1 3 (some 2) 0 0 := ⟨iX2_takeNumber, aiX2_takeNumber, rfl, rfl, k_callV (n := 2) (T := TX2) (N := 10) (dk_invokevirtual (by decide +kernel : bk3 cX2_readCar 50 182 80 = true)) rfl (wk1 wb_2_177) (wk0 wb_2_175) (wk0 wb_2_177) (wk8 wb_0_0) (wk2 wb_1_1) (by decide +kernel) (by decide) (by decide)⟩
theorem oX2_readCar_53 : pm_okF cX2_readCar RX2 2 false 53 (s_if (fun x => decide (¬ x = 0)) 58 56) := k_if_ne (dk_ifCond_ne (by decide +kernel : bkS cX2_readCar 53 154 5 = true)) (by decide)
theorem oX2_readCar_56 : pm_okF cX2_readCar RX2 2 false 56 (s_const (.int 0) 57) := k_iconst (dk_iconst_0 (by decide +kernel : bk1 cX2_readCar 56 3 = true)) (by decide)
theorem oX2_readCar_57 : pm_okR cX2_readCar (some .boolean) 57 2 := ⟨rfl, (dk_ireturn (by decide +kernel : bk1 cX2_readCar 57 172 = true))⟩
theorem oX2_readCar_58 : pm_okF cX2_readCar RX2 2 false 58 (s_al 0 59) := k_aload_n (dk_aload_n_0 (by decide +kernel : bk1 cX2_readCar 58 42 = true)) rfl
theorem oX2_readCar_59 : pm_okF cX2_readCar RX2 2 false 59 (s_getf 2 9 62) := k_getf (C := RX2) (T := TX2) (N := 10) rfl inX2 (by decide) (wk12 wb_1_133) (dk_getfield (by decide +kernel : bk3 cX2_readCar 59 180 84 = true))
theorem oX2_readCar_62 : pm_okF cX2_readCar RX2 2 false 62 (s_is 1 63) := k_istore_n (dk_istore_n_1 (by decide +kernel : bk1 cX2_readCar 62 60 = true)) rfl (by decide)
theorem oX2_readCar_63 : pm_okF cX2_readCar RX2 2 false 63 (s_al 0 64) := k_aload_n (dk_aload_n_0 (by decide +kernel : bk1 cX2_readCar 63 42 = true)) rfl
theorem oX2_readCar_64 : pm_okF cX2_readCar RX2 2 false 64 (s_const (.retAddr 10) 66) := k_ldcs (i := 6) (by decide) rfl (dk_ldc (by decide +kernel : bk2 cX2_readCar 64 18 110 = true))
theorem oX2_readCar_66 : ∃ I : pm_M, pm_at pm_P 41 = some I ∧ I.2.2.2.2.2.1 = 0 ∧ I.2.2.2.2.2.2.1 = 0 ∧ pm_okC cX2_readCar RX2 2 false 66 I.1 I.2.1 I.2.2.1 I.2.2.2.1 2 (some 2) 0 0 := ⟨iX2_takeWord, aiX2_takeWord, rfl, rfl, k_callV (n := 1) (T := TX2) (N := 10) (dk_invokevirtual (by decide +kernel : bk3 cX2_readCar 66 182 75 = true)) rfl (wk1 wb_2_116) (wk0 wb_2_114) (wk0 wb_2_116) (wk5 wb_0_0) (wk2 wb_1_1) (by decide +kernel) (by decide) (by decide)⟩
theorem oX2_readCar_69 : pm_okF cX2_readCar RX2 2 false 69 (s_if (fun x => decide (x = 0)) 82 72) := k_if_eq (dk_ifCond_eq (by decide +kernel : bkS cX2_readCar 69 153 13 = true)) (by decide)
theorem oX2_readCar_72 : pm_okF cX2_readCar RX2 2 false 72 (s_al 0 73) := k_aload_n (dk_aload_n_0 (by decide +kernel : bk1 cX2_readCar 72 42 = true)) rfl
theorem oX2_readCar_73 : pm_okF cX2_readCar RX2 2 false 73 (s_const (.int 0) 74) := k_iconst (dk_iconst_0 (by decide +kernel : bk1 cX2_readCar 73 3 = true)) (by decide)
theorem oX2_readCar_74 : pm_okF cX2_readCar RX2 2 false 74 (s_const (.int 99) 76) := k_bipush (dk_bipush (by decide +kernel : bkB cX2_readCar 74 16 99 = true)) (by decide)
theorem oX2_readCar_76 : ∃ I : pm_M, pm_at pm_P 39 = some I ∧ I.2.2.2.2.2.1 = 0 ∧ I.2.2.2.2.2.2.1 = 0 ∧ pm_okC cX2_readCar RX2 2 false 76 I.1 I.2.1 I.2.2.1 I.2.2.2.1 3 (some 2) 0 0 := ⟨iX2_takeNumber, aiX2_takeNumber, rfl, rfl, k_callV (n := 2) (T := TX2) (N := 10) (dk_invokevirtual (by decide +kernel : bk3 cX2_readCar 76 182 80 = true)) rfl (wk1 wb_2_177) (wk0 wb_2_175) (wk0 wb_2_177) (wk8 wb_0_0) (wk2 wb_1_1) (by decide +kernel) (by decide) (by decide)⟩
theorem oX2_readCar_79 : pm_okF cX2_readCar RX2 2 false 79 (s_if (fun x => decide (¬ x = 0)) 84 82) := k_if_ne (dk_ifCond_ne (by decide +kernel : bkS cX2_readCar 79 154 5 = true)) (by decide)
theorem oX2_readCar_82 : pm_okF cX2_readCar RX2 2 false 82 (s_const (.int 0) 83) := k_iconst (dk_iconst_0 (by decide +kernel : bk1 cX2_readCar 82 3 = true)) (by decide)
theorem oX2_readCar_83 : pm_okR cX2_readCar (some .boolean) 83 2 := ⟨rfl, (dk_ireturn (by decide +kernel : bk1 cX2_readCar 83 172 = true))⟩
theorem oX2_readCar_84 : pm_okF cX2_readCar RX2 2 false 84 (s_al 0 85) := k_aload_n (dk_aload_n_0 (by decide +kernel : bk1 cX2_readCar 84 42 = true)) rfl
theorem oX2_readCar_85 : pm_okF cX2_readCar RX2 2 false 85 (s_getf 2 0 88) := k_getf (C := RX2) (T := TX2) (N := 10) rfl inX2 (by decide) (wk0 wb_1_133) (dk_getfield (by decide +kernel : bk3 cX2_readCar 85 180 18 = true))
theorem oX2_readCar_88 : pm_okF cX2_readCar RX2 2 false 88 (s_il 1 89) := k_iload_n (dk_iload_n_1 (by decide +kernel : bk1 cX2_readCar 88 27 = true)) rfl
theorem oX2_readCar_89 : pm_okF cX2_readCar RX2 2 false 89 (s_al 0 90) := k_aload_n (dk_aload_n_0 (by decide +kernel : bk1 cX2_readCar 89 42 = true)) rfl
theorem oX2_readCar_90 : pm_okF cX2_readCar RX2 2 false 90 (s_getf 2 9 93) := k_getf (C := RX2) (T := TX2) (N := 10) rfl inX2 (by decide) (wk12 wb_1_133) (dk_getfield (by decide +kernel : bk3 cX2_readCar 90 180 84 = true))
theorem oX2_readCar_93 : ∃ I : pm_M, pm_at pm_P 48 = some I ∧ I.2.2.2.2.2.1 = 0 ∧ I.2.2.2.2.2.2.1 = 0 ∧ pm_okC cX2_readCar RX2 2 false 93 I.1 I.2.1 I.2.2.1 I.2.2.2.1 3 (some 5) 0 0 := ⟨iX5_addCar, aiX5_addCar, rfl, rfl, k_callV (n := 2) (T := TX5) (N := 15) (dk_invokevirtual (by decide +kernel : bk3 cX2_readCar 93 182 112 = true)) rfl (wk3 wb_2_195) (wk0 wb_2_195) (wk1 wb_2_195) (wk2 wb_2_195) (wk3 wb_1_1) (by decide +kernel) (by decide) (by decide)⟩
theorem oX2_readCar_96 : pm_okF cX2_readCar RX2 2 false 96 (s_const (.int 1) 97) := k_iconst (dk_iconst_1 (by decide +kernel : bk1 cX2_readCar 96 4 = true)) (by decide)
theorem oX2_readCar_97 : pm_okR cX2_readCar (some .boolean) 97 2 := ⟨rfl, (dk_ireturn (by decide +kernel : bk1 cX2_readCar 97 172 = true))⟩
set_option maxRecDepth 20000 in
theorem oX2_readCar : pm_okM pm_P iX2_readCar := ⟨(by decide +kernel), (fun h => by cases h), List.forall_mem_cons.mpr ⟨oX2_readCar_0, List.forall_mem_cons.mpr ⟨oX2_readCar_1, List.forall_mem_cons.mpr ⟨oX2_readCar_4, List.forall_mem_cons.mpr ⟨oX2_readCar_7, List.forall_mem_cons.mpr ⟨oX2_readCar_8, List.forall_mem_cons.mpr ⟨oX2_readCar_11, List.forall_mem_cons.mpr ⟨oX2_readCar_14, List.forall_mem_cons.mpr ⟨oX2_readCar_17, List.forall_mem_cons.mpr ⟨oX2_readCar_18, List.forall_mem_cons.mpr ⟨oX2_readCar_19, List.forall_mem_cons.mpr ⟨oX2_readCar_22, List.forall_mem_cons.mpr ⟨oX2_readCar_23, List.forall_mem_cons.mpr ⟨oX2_readCar_24, List.forall_mem_cons.mpr ⟨oX2_readCar_26, List.forall_mem_cons.mpr ⟨oX2_readCar_29, List.forall_mem_cons.mpr ⟨oX2_readCar_32, List.forall_mem_cons.mpr ⟨oX2_readCar_33, List.forall_mem_cons.mpr ⟨oX2_readCar_35, List.forall_mem_cons.mpr ⟨oX2_readCar_38, List.forall_mem_cons.mpr ⟨oX2_readCar_41, List.forall_mem_cons.mpr ⟨oX2_readCar_42, List.forall_mem_cons.mpr ⟨oX2_readCar_43, List.forall_mem_cons.mpr ⟨oX2_readCar_44, List.forall_mem_cons.mpr ⟨oX2_readCar_47, List.forall_mem_cons.mpr ⟨oX2_readCar_50, List.forall_mem_cons.mpr ⟨oX2_readCar_53, List.forall_mem_cons.mpr ⟨oX2_readCar_56, List.forall_mem_cons.mpr ⟨oX2_readCar_57, List.forall_mem_cons.mpr ⟨oX2_readCar_58, List.forall_mem_cons.mpr ⟨oX2_readCar_59, List.forall_mem_cons.mpr ⟨oX2_readCar_62, List.forall_mem_cons.mpr ⟨oX2_readCar_63, List.forall_mem_cons.mpr ⟨oX2_readCar_64, List.forall_mem_cons.mpr ⟨oX2_readCar_66, List.forall_mem_cons.mpr ⟨oX2_readCar_69, List.forall_mem_cons.mpr ⟨oX2_readCar_72, List.forall_mem_cons.mpr ⟨oX2_readCar_73, List.forall_mem_cons.mpr ⟨oX2_readCar_74, List.forall_mem_cons.mpr ⟨oX2_readCar_76, List.forall_mem_cons.mpr ⟨oX2_readCar_79, List.forall_mem_cons.mpr ⟨oX2_readCar_82, List.forall_mem_cons.mpr ⟨oX2_readCar_83, List.forall_mem_cons.mpr ⟨oX2_readCar_84, List.forall_mem_cons.mpr ⟨oX2_readCar_85, List.forall_mem_cons.mpr ⟨oX2_readCar_88, List.forall_mem_cons.mpr ⟨oX2_readCar_89, List.forall_mem_cons.mpr ⟨oX2_readCar_90, List.forall_mem_cons.mpr ⟨oX2_readCar_93, List.forall_mem_cons.mpr ⟨oX2_readCar_96, List.forall_mem_cons.mpr ⟨oX2_readCar_97, fun _ h => absurd h List.not_mem_nil⟩⟩⟩⟩⟩⟩⟩⟩⟩⟩⟩⟩⟩⟩⟩⟩⟩⟩⟩⟩⟩⟩⟩⟩⟩⟩⟩⟩⟩⟩⟩⟩⟩⟩⟩⟩⟩⟩⟩⟩⟩⟩⟩⟩⟩⟩⟩⟩⟩⟩⟩
set_option maxRecDepth 20000 in
theorem oX2_readDigits : pm_okM pm_P iX2_readDigits := rows_F (kd := 0) (plainFor_of_name pnRX2) rfl (abX2_readDigits w0) poRX2_g pcRX2_g rfl (by decide +kernel)
end
section
/-! the rows are sound (written by tab2.py) -/
theorem oX2_readHead_0 : pm_okF cX2_readHead RX2 1 false 0 (s_al 0 1) := k_aload_n (dk_aload_n_0 (by decide +kernel : bk1 cX2_readHead 0 42 = true)) rfl
theorem oX2_readHead_1 : pm_okF cX2_readHead RX2 1 false 1 (s_const (.retAddr 4) 3) := k_ldcs (i := 0) (by decide) rfl (dk_ldc (by decide +kernel : bk2 cX2_readHead 1 18 73 = true))
theorem oX2_readHead_3 : ∃ I : pm_M, pm_at pm_P 41 = some I ∧ I.2.2.2.2.2.1 = 0 ∧ I.2.2.2.2.2.2.1 = 0 ∧ pm_okC cX2_readHead RX2 1 false 3 I.1 I.2.1 I.2.2.1 I.2.2.2.1 2 (some 2) 0 0 := ⟨iX2_takeWord, aiX2_takeWord, rfl, rfl, k_callV (n := 1) (T := TX2) (N := 10) (dk_invokevirtual (by decide +kernel : bk3 cX2_readHead 3 182 75 = true)) rfl (wk1 wb_2_116) (wk0 wb_2_114) (wk0 wb_2_116) (wk5 wb_0_0) (wk2 wb_1_1) (by decide +kernel) (by decide) (by decide)⟩
theorem oX2_readHead_6 : pm_okF cX2_readHead RX2 1 false 6 (s_if (fun x => decide (x = 0)) 28 9) := k_if_eq (dk_ifCond_eq (by decide +kernel : bkS cX2_readHead 6 153 22 = true)) (by decide)
theorem oX2_readHead_9 : pm_okF cX2_readHead RX2 1 false 9 (s_al 0 10) := k_aload_n (dk_aload_n_0 (by decide +kernel : bk1 cX2_readHead 9 42 = true)) rfl
theorem oX2_readHead_10 : pm_okF cX2_readHead RX2 1 false 10 (s_const (.retAddr 5) 12) := k_ldcs (i := 1) (by decide) rfl (dk_ldc (by decide +kernel : bk2 cX2_readHead 10 18 78 = true))
theorem oX2_readHead_12 : ∃ I : pm_M, pm_at pm_P 41 = some I ∧ I.2.2.2.2.2.1 = 0 ∧ I.2.2.2.2.2.2.1 = 0 ∧ pm_okC cX2_readHead RX2 1 false 12 I.1 I.2.1 I.2.2.1 I.2.2.2.1 2 (some 2) 0 0 := ⟨iX2_takeWord, aiX2_takeWord, rfl, rfl, k_callV (n := 1) (T := TX2) (N := 10) (dk_invokevirtual (by decide +kernel : bk3 cX2_readHead 12 182 75 = true)) rfl (wk1 wb_2_116) (wk0 wb_2_114) (wk0 wb_2_116) (wk5 wb_0_0) (wk2 wb_1_1) (by decide +kernel) (by decide) (by decide)⟩
theorem oX2_readHead_15 : pm_okF cX2_readHead RX2 1 false 15 (s_if (fun x => decide (x = 0)) 28 18) := k_if_eq (dk_ifCond_eq (by decide +kernel : bkS cX2_readHead 15 153 13 = true)) (by decide)
theorem oX2_readHead_18 : pm_okF cX2_readHead RX2 1 false 18 (s_al 0 19) := k_aload_n (dk_aload_n_0 (by decide +kernel : bk1 cX2_readHead 18 42 = true)) rfl
theorem oX2_readHead_19 : pm_okF cX2_readHead RX2 1 false 19 (s_const (.int 1) 20) := k_iconst (dk_iconst_1 (by decide +kernel : bk1 cX2_readHead 19 4 = true)) (by decide)
theorem oX2_readHead_20 : pm_okF cX2_readHead RX2 1 false 20 (s_const (.int 8) 22) := k_bipush (dk_bipush (by decide +kernel : bkB cX2_readHead 20 16 8 = true)) (by decide)
theorem oX2_readHead_22 : ∃ I : pm_M, pm_at pm_P 39 = some I ∧ I.2.2.2.2.2.1 = 0 ∧ I.2.2.2.2.2.2.1 = 0 ∧ pm_okC cX2_readHead RX2 1 false 22 I.1 I.2.1 I.2.2.1 I.2.2.2.1 3 (some 2) 0 0 := ⟨iX2_takeNumber, aiX2_takeNumber, rfl, rfl, k_callV (n := 2) (T := TX2) (N := 10) (dk_invokevirtual (by decide +kernel : bk3 cX2_readHead 22 182 80 = true)) rfl (wk1 wb_2_177) (wk0 wb_2_175) (wk0 wb_2_177) (wk8 wb_0_0) (wk2 wb_1_1) (by decide +kernel) (by decide) (by decide)⟩
theorem oX2_readHead_25 : pm_okF cX2_readHead RX2 1 false 25 (s_if (fun x => decide (¬ x = 0)) 30 28) := k_if_ne (dk_ifCond_ne (by decide +kernel : bkS cX2_readHead 25 154 5 = true)) (by decide)
theorem oX2_readHead_28 : pm_okF cX2_readHead RX2 1 false 28 (s_const (.int 0) 29) := k_iconst (dk_iconst_0 (by decide +kernel : bk1 cX2_readHead 28 3 = true)) (by decide)
theorem oX2_readHead_29 : pm_okR cX2_readHead (some .boolean) 29 2 := ⟨rfl, (dk_ireturn (by decide +kernel : bk1 cX2_readHead 29 172 = true))⟩
theorem oX2_readHead_30 : pm_okF cX2_readHead RX2 1 false 30 (s_al 0 31) := k_aload_n (dk_aload_n_0 (by decide +kernel : bk1 cX2_readHead 30 42 = true)) rfl
theorem oX2_readHead_31 : pm_okF cX2_readHead RX2 1 false 31 (s_getf 2 0 34) := k_getf (C := RX2) (T := TX2) (N := 10) rfl inX2 (by decide) (wk0 wb_1_133) (dk_getfield (by decide +kernel : bk3 cX2_readHead 31 180 18 = true))
theorem oX2_readHead_34 : pm_okF cX2_readHead RX2 1 false 34 (s_al 0 35) := k_aload_n (dk_aload_n_0 (by decide +kernel : bk1 cX2_readHead 34 42 = true)) rfl
theorem oX2_readHead_35 : pm_okF cX2_readHead RX2 1 false 35 (s_getf 2 9 38) := k_getf (C := RX2) (T := TX2) (N := 10) rfl inX2 (by decide) (wk12 wb_1_133) (dk_getfield (by decide +kernel : bk3 cX2_readHead 35 180 84 = true))
theorem oX2_readHead_38 : pm_okF cX2_readHead RX2 1 false 38 (s_putf 5 0 (.int) 41) := k_putf (C := RX5) (T := TX5) (N := 15) rfl inX5 tyX5_ok nmX5 (by decide) rfl rfl (wk14 wb_1_42) (dk_putfield (by decide +kernel : bk3 cX2_readHead 38 181 87 = true))
theorem oX2_readHead_41 : pm_okF cX2_readHead RX2 1 false 41 (s_al 0 42) := k_aload_n (dk_aload_n_0 (by decide +kernel : bk1 cX2_readHead 41 42 = true)) rfl
theorem oX2_readHead_42 : pm_okF cX2_readHead RX2 1 false 42 (s_const (.retAddr 6) 44) := k_ldcs (i := 2) (by decide) rfl (dk_ldc (by decide +kernel : bk2 cX2_readHead 42 18 89 = true))
theorem oX2_readHead_44 : ∃ I : pm_M, pm_at pm_P 41 = some I ∧ I.2.2.2.2.2.1 = 0 ∧ I.2.2.2.2.2.2.1 = 0 ∧ pm_okC cX2_readHead RX2 1 false 44 I.1 I.2.1 I.2.2.1 I.2.2.2.1 2 (some 2) 0 0 := ⟨iX2_takeWord, aiX2_takeWord, rfl, rfl, k_callV (n := 1) (T := TX2) (N := 10) (dk_invokevirtual (by decide +kernel : bk3 cX2_readHead 44 182 75 = true)) rfl (wk1 wb_2_116) (wk0 wb_2_114) (wk0 wb_2_116) (wk5 wb_0_0) (wk2 wb_1_1) (by decide +kernel) (by decide) (by decide)⟩
theorem oX2_readHead_47 : pm_okF cX2_readHead RX2 1 false 47 (s_if (fun x => decide (x = 0)) 59 50) := k_if_eq (dk_ifCond_eq (by decide +kernel : bkS cX2_readHead 47 153 12 = true)) (by decide)
theorem oX2_readHead_50 : pm_okF cX2_readHead RX2 1 false 50 (s_al 0 51) := k_aload_n (dk_aload_n_0 (by decide +kernel : bk1 cX2_readHead 50 42 = true)) rfl
theorem oX2_readHead_51 : pm_okF cX2_readHead RX2 1 false 51 (s_const (.int 0) 52) := k_iconst (dk_iconst_0 (by decide +kernel : bk1 cX2_readHead 51 3 = true)) (by decide)
theorem oX2_readHead_52 : pm_okF cX2_readHead RX2 1 false 52 (s_const (.int 3) 53) := k_iconst (dk_iconst_3 (by decide +kernel : bk1 cX2_readHead 52 6 = true)) (by decide)
theorem oX2_readHead_53 : ∃ I : pm_M, pm_at pm_P 39 = some I ∧ I.2.2.2.2.2.1 = 0 ∧ I.2.2.2.2.2.2.1 = 0 ∧ pm_okC cX2_readHead RX2 1 false 53 I.1 I.2.1 I.2.2.1 I.2.2.2.1 3 (some 2) 0 0 := ⟨iX2_takeNumber, aiX2_takeNumber, rfl, rfl, k_callV (n := 2) (T := TX2) (N := 10) (dk_invokevirtual (by decide +kernel : bk3 cX2_readHead 53 182 80 = true)) rfl (wk1 wb_2_177) (wk0 wb_2_175) (wk0 wb_2_177) (wk8 wb_0_0) (wk2 wb_1_1) (by decide +kernel) (by decide) (by decide)⟩
theorem oX2_readHead_56 : pm_okF cX2_readHead RX2 1 false 56 (s_if (fun x => decide (¬ x = 0)) 61 59) := k_if_ne (dk_ifCond_ne (by decide +kernel : bkS cX2_readHead 56 154 5 = true)) (by decide)
theorem oX2_readHead_59 : pm_okF cX2_readHead RX2 1 false 59 (s_const (.int 0) 60) := k_iconst (dk_iconst_0 (by decide +kernel : bk1 cX2_readHead 59 3 = true)) (by decide)
theorem oX2_readHead_60 : pm_okR cX2_readHead (some .boolean) 60 2 := ⟨rfl, (dk_ireturn (by decide +kernel : bk1 cX2_readHead 60 172 = true))⟩
theorem oX2_readHead_61 : pm_okF cX2_readHead RX2 1 false 61 (s_al 0 62) := k_aload_n (dk_aload_n_0 (by decide +kernel : bk1 cX2_readHead 61 42 = true)) rfl
theorem oX2_readHead_62 : pm_okF cX2_readHead RX2 1 false 62 (s_getf 2 0 65) := k_getf (C := RX2) (T := TX2) (N := 10) rfl inX2 (by decide) (wk0 wb_1_133) (dk_getfield (by decide +kernel : bk3 cX2_readHead 62 180 18 = true))
theorem oX2_readHead_65 : pm_okF cX2_readHead RX2 1 false 65 (s_al 0 66) := k_aload_n (dk_aload_n_0 (by decide +kernel : bk1 cX2_readHead 65 42 = true)) rfl
theorem oX2_readHead_66 : pm_okF cX2_readHead RX2 1 false 66 (s_getf 2 9 69) := k_getf (C := RX2) (T := TX2) (N := 10) rfl inX2 (by decide) (wk12 wb_1_133) (dk_getfield (by decide +kernel : bk3 cX2_readHead 66 180 84 = true))
theorem oX2_readHead_69 : pm_okF cX2_readHead RX2 1 false 69 (s_putf 5 1 (.int) 72) := k_putf (C := RX5) (T := TX5) (N := 15) rfl inX5 tyX5_ok nmX5 (by decide) rfl rfl (wk1 wb_1_58) (dk_putfield (by decide +kernel : bk3 cX2_readHead 69 181 91 = true))
theorem oX2_readHead_72 : pm_okF cX2_readHead RX2 1 false 72 (s_al 0 73) := k_aload_n (dk_aload_n_0 (by decide +kernel : bk1 cX2_readHead 72 42 = true)) rfl
theorem oX2_readHead_73 : pm_okF cX2_readHead RX2 1 false 73 (s_const (.retAddr 7) 75) := k_ldcs (i := 3) (by decide) rfl (dk_ldc (by decide +kernel : bk2 cX2_readHead 73 18 93 = true))
theorem oX2_readHead_75 : ∃ I : pm_M, pm_at pm_P 41 = some I ∧ I.2.2.2.2.2.1 = 0 ∧ I.2.2.2.2.2.2.1 = 0 ∧ pm_okC cX2_readHead RX2 1 false 75 I.1 I.2.1 I.2.2.1 I.2.2.2.1 2 (some 2) 0 0 := ⟨iX2_takeWord, aiX2_takeWord, rfl, rfl, k_callV (n := 1) (T := TX2) (N := 10) (dk_invokevirtual (by decide +kernel : bk3 cX2_readHead 75 182 75 = true)) rfl (wk1 wb_2_116) (wk0 wb_2_114) (wk0 wb_2_116) (wk5 wb_0_0) (wk2 wb_1_1) (by decide +kernel) (by decide) (by decide)⟩
theorem oX2_readHead_78 : pm_okF cX2_readHead RX2 1 false 78 (s_if (fun x => decide (x = 0)) 91 81) := k_if_eq (dk_ifCond_eq (by decide +kernel : bkS cX2_readHead 78 153 13 = true)) (by decide)
theorem oX2_readHead_81 : pm_okF cX2_readHead RX2 1 false 81 (s_al 0 82) := k_aload_n (dk_aload_n_0 (by decide +kernel : bk1 cX2_readHead 81 42 = true)) rfl
theorem oX2_readHead_82 : pm_okF cX2_readHead RX2 1 false 82 (s_const (.int 0) 83) := k_iconst (dk_iconst_0 (by decide +kernel : bk1 cX2_readHead 82 3 = true)) (by decide)
theorem oX2_readHead_83 : pm_okF cX2_readHead RX2 1 false 83 (s_const (.int 10) 85) := k_bipush (dk_bipush (by decide +kernel : bkB cX2_readHead 83 16 10 = true)) (by decide)
theorem oX2_readHead_85 : ∃ I : pm_M, pm_at pm_P 39 = some I ∧ I.2.2.2.2.2.1 = 0 ∧ I.2.2.2.2.2.2.1 = 0 ∧ pm_okC cX2_readHead RX2 1 false 85 I.1 I.2.1 I.2.2.1 I.2.2.2.1 3 (some 2) 0 0 := ⟨iX2_takeNumber, aiX2_takeNumber, rfl, rfl, k_callV (n := 2) (T := TX2) (N := 10) (dk_invokevirtual (by decide +kernel : bk3 cX2_readHead 85 182 80 = true)) rfl (wk1 wb_2_177) (wk0 wb_2_175) (wk0 wb_2_177) (wk8 wb_0_0) (wk2 wb_1_1) (by decide +kernel) (by decide) (by decide)⟩
theorem oX2_readHead_88 : pm_okF cX2_readHead RX2 1 false 88 (s_if (fun x => decide (¬ x = 0)) 93 91) := k_if_ne (dk_ifCond_ne (by decide +kernel : bkS cX2_readHead 88 154 5 = true)) (by decide)
theorem oX2_readHead_91 : pm_okF cX2_readHead RX2 1 false 91 (s_const (.int 0) 92) := k_iconst (dk_iconst_0 (by decide +kernel : bk1 cX2_readHead 91 3 = true)) (by decide)
theorem oX2_readHead_92 : pm_okR cX2_readHead (some .boolean) 92 2 := ⟨rfl, (dk_ireturn (by decide +kernel : bk1 cX2_readHead 92 172 = true))⟩
theorem oX2_readHead_93 : pm_okF cX2_readHead RX2 1 false 93 (s_al 0 94) := k_aload_n (dk_aload_n_0 (by decide +kernel : bk1 cX2_readHead 93 42 = true)) rfl
theorem oX2_readHead_94 : pm_okF cX2_readHead RX2 1 false 94 (s_getf 2 0 97) := k_getf (C := RX2) (T := TX2) (N := 10) rfl inX2 (by decide) (wk0 wb_1_133) (dk_getfield (by decide +kernel : bk3 cX2_readHead 94 180 18 = true))
theorem oX2_readHead_97 : pm_okF cX2_readHead RX2 1 false 97 (s_al 0 98) := k_aload_n (dk_aload_n_0 (by decide +kernel : bk1 cX2_readHead 97 42 = true)) rfl
theorem oX2_readHead_98 : pm_okF cX2_readHead RX2 1 false 98 (s_getf 2 9 101) := k_getf (C := RX2) (T := TX2) (N := 10) rfl inX2 (by decide) (wk12 wb_1_133) (dk_getfield (by decide +kernel : bk3 cX2_readHead 98 180 84 = true))
theorem oX2_readHead_101 : pm_okF cX2_readHead RX2 1 false 101 (s_putf 5 2 (.int) 104) := k_putf (C := RX5) (T := TX5) (N := 15) rfl inX5 tyX5_ok nmX5 (by decide) rfl rfl (wk4 wb_1_58) (dk_putfield (by decide +kernel : bk3 cX2_readHead 101 181 95 = true))
theorem oX2_readHead_104 : pm_okF cX2_readHead RX2 1 false 104 (s_al 0 105) := k_aload_n (dk_aload_n_0 (by decide +kernel : bk1 cX2_readHead 104 42 = true)) rfl
theorem oX2_readHead_105 : pm_okF cX2_readHead RX2 1 false 105 (s_getf 2 4 108) := k_getf (C := RX2) (T := TX2) (N := 10) rfl inX2 (by decide) (wk7 wb_1_133) (dk_getfield (by decide +kernel : bk3 cX2_readHead 105 180 25 = true))
theorem oX2_readHead_108 : pm_okF cX2_readHead RX2 1 false 108 (s_al 0 109) := k_aload_n (dk_aload_n_0 (by decide +kernel : bk1 cX2_readHead 108 42 = true)) rfl
theorem oX2_readHead_109 : pm_okF cX2_readHead RX2 1 false 109 (s_getf 2 0 112) := k_getf (C := RX2) (T := TX2) (N := 10) rfl inX2 (by decide) (wk0 wb_1_133) (dk_getfield (by decide +kernel : bk3 cX2_readHead 109 180 18 = true))
theorem oX2_readHead_112 : pm_okF cX2_readHead RX2 1 false 112 (s_getf 5 0 115) := k_getf (C := RX5) (T := TX5) (N := 15) rfl inX5 (by decide) (wk14 wb_1_42) (dk_getfield (by decide +kernel : bk3 cX2_readHead 112 180 87 = true))
theorem oX2_readHead_115 : pm_okF cX2_readHead RX2 1 false 115 (s_const (.int 1) 116) := k_iconst (dk_iconst_1 (by decide +kernel : bk1 cX2_readHead 115 4 = true)) (by decide)
theorem oX2_readHead_116 : pm_okF cX2_readHead RX2 1 false 116 (s_bin (fun x y => x + y) 117) := k_iadd (dk_iadd (by decide +kernel : bk1 cX2_readHead 116 96 = true))
theorem oX2_readHead_117 : ∃ I : pm_M, pm_at pm_P 18 = some I ∧ I.2.2.2.2.2.1 = 0 ∧ I.2.2.2.2.2.2.1 = 0 ∧ pm_okC cX2_readHead RX2 1 false 117 I.1 I.2.1 I.2.2.1 I.2.2.2.1 2 (some 0) 0 0 := ⟨iX0_start, aiX0_start, rfl, rfl, k_callV (n := 1) (T := TX0) (N := 2) (dk_invokevirtual (by decide +kernel : bk3 cX2_readHead 117 182 97 = true)) rfl (wk3 wb_2_181) (wk0 wb_2_181) (wk1 wb_2_181) (wk2 wb_2_181) (wk4 wb_1_1) (by decide +kernel) (by decide) (by decide)⟩
theorem oX2_readHead_120 : pm_okF cX2_readHead RX2 1 false 120 (s_const (.int 1) 121) := k_iconst (dk_iconst_1 (by decide +kernel : bk1 cX2_readHead 120 4 = true)) (by decide)
theorem oX2_readHead_121 : pm_okR cX2_readHead (some .boolean) 121 2 := ⟨rfl, (dk_ireturn (by decide +kernel : bk1 cX2_readHead 121 172 = true))⟩
set_option maxRecDepth 20000 in
theorem oX2_readHead : pm_okM pm_P iX2_readHead := ⟨(by decide +kernel), (fun h => by cases h), List.forall_mem_cons.mpr ⟨oX2_readHead_0, List.forall_mem_cons.mpr ⟨oX2_readHead_1, List.forall_mem_cons.mpr ⟨oX2_readHead_3, List.forall_mem_cons.mpr ⟨oX2_readHead_6, List.forall_mem_cons.mpr ⟨oX2_readHead_9, List.forall_mem_cons.mpr ⟨oX2_readHead_10, List.forall_mem_cons.mpr ⟨oX2_readHead_12, List.forall_mem_cons.mpr ⟨oX2_readHead_15, List.forall_mem_cons.mpr ⟨oX2_readHead_18, List.forall_mem_cons.mpr ⟨oX2_readHead_19, List.forall_mem_cons.mpr ⟨oX2_readHead_20, List.forall_mem_cons.mpr ⟨oX2_readHead_22, List.forall_mem_cons.mpr ⟨oX2_readHead_25, List.forall_mem_cons.mpr ⟨oX2_readHead_28, List.forall_mem_cons.mpr ⟨oX2_readHead_29, List.forall_mem_cons.mpr ⟨oX2_readHead_30, List.forall_mem_cons.mpr ⟨oX2_readHead_31, List.forall_mem_cons.mpr ⟨oX2_readHead_34, List.forall_mem_cons.mpr ⟨oX2_readHead_35, List.forall_mem_cons.mpr ⟨oX2_readHead_38, List.forall_mem_cons.mpr ⟨oX2_readHead_41, List.forall_mem_cons.mpr ⟨oX2_readHead_42, List.forall_mem_cons.mpr ⟨oX2_readHead_44, List.forall_mem_cons.mpr ⟨oX2_readHead_47, List.forall_mem_cons.mpr ⟨oX2_readHead_50, List.forall_mem_cons.mpr ⟨oX2_readHead_51, List.forall_mem_cons.mpr ⟨oX2_readHead_52, List.forall_mem_cons.mpr ⟨oX2_readHead_53, List.forall_mem_cons.mpr ⟨oX2_readHead_56, List.forall_mem_cons.mpr ⟨oX2_readHead_59, List.forall_mem_cons.mpr ⟨oX2_readHead_60, List.forall_mem_cons.mpr ⟨oX2_readHead_61, List.forall_mem_cons.mpr ⟨oX2_readHead_62, List.forall_mem_cons.mpr ⟨oX2_readHead_65, List.forall_mem_cons.mpr ⟨oX2_readHead_66, List.forall_mem_cons.mpr ⟨oX2_readHead_69, List.forall_mem_cons.mpr ⟨oX2_readHead_72, List.forall_mem_cons.mpr ⟨oX2_readHead_73, List.forall_mem_cons.mpr ⟨oX2_readHead_75, List.forall_mem_cons.mpr ⟨oX2_readHead_78, List.forall_mem_cons.mpr ⟨oX2_readHead_81, List.forall_mem_cons.mpr ⟨oX2_readHead_82, List.forall_mem_cons.mpr ⟨oX2_readHead_83, List.forall_mem_cons.mpr ⟨oX2_readHead_85, List.forall_mem_cons.mpr ⟨oX2_readHead_88, List.forall_mem_cons.mpr ⟨oX2_readHead_91, List.forall_mem_cons.mpr ⟨oX2_readHead_92, List.forall_mem_cons.mpr ⟨oX2_readHead_93, List.forall_mem_cons.mpr ⟨oX2_readHead_94, List.forall_mem_cons.mpr ⟨oX2_readHead_97, List.forall_mem_cons.mpr ⟨oX2_readHead_98, List.forall_mem_cons.mpr ⟨oX2_readHead_101, List.forall_mem_cons.mpr ⟨oX2_readHead_104, List.forall_mem_cons.mpr ⟨oX2_readHead_105, List.forall_mem_cons.mpr ⟨oX2_readHead_108, List.forall_mem_cons.mpr ⟨oX2_readHead_109, List.forall_mem_cons.mpr ⟨oX2_readHead_112, List.forall_mem_cons.mpr ⟨oX2_readHead_115, List.forall_mem_cons.mpr ⟨oX2_readHead_116, List.forall_mem_cons.mpr ⟨oX2_readHead_117, List.forall_mem_cons.mpr ⟨oX2_readHead_120, List.forall_mem_cons.mpr ⟨oX2_readHead_121, fun _ h => absurd h List.not_mem_nil⟩⟩⟩⟩⟩⟩⟩⟩⟩⟩⟩⟩⟩⟩⟩⟩⟩⟩⟩⟩⟩⟩⟩⟩⟩⟩⟩⟩⟩⟩⟩⟩⟩⟩⟩⟩⟩⟩⟩⟩⟩⟩⟩⟩⟩⟩⟩⟩⟩⟩⟩⟩⟩⟩⟩⟩⟩⟩⟩⟩⟩⟩⟩
theorem oX2_readJoin_0 : pm_okF cX2_readJoin RX2 2 false 0 (s_al 0 1) := k_aload_n (dk_aload_n_0 (by decide +kernel : bk1 cX2_readJoin 0 42 = true)) rfl
theorem oX2_readJoin_1 : pm_okF cX2_readJoin RX2 2 false 1 (s_const (.retAddr 11) 3) := k_ldcs (i := 7) (by decide) rfl (dk_ldc (by decide +kernel : bk2 cX2_readJoin 1 18 116 = true))
theorem oX2_readJoin_3 : ∃ I : pm_M, pm_at pm_P 41 = some I ∧ I.2.2.2.2.2.1 = 0 ∧ I.2.2.2.2.2.2.1 = 0 ∧ pm_okC cX2_readJoin RX2 2 false 3 I.1 I.2.1 I.2.2.1 I.2.2.2.1 2 (some 2) 0 0 := ⟨iX2_takeWord, aiX2_takeWord, rfl, rfl, k_callV (n := 1) (T := TX2) (N := 10) (dk_invokevirtual (by decide +kernel : bk3 cX2_readJoin 3 182 75 = true)) rfl (wk1 wb_2_116) (wk0 wb_2_114) (wk0 wb_2_116) (wk5 wb_0_0) (wk2 wb_1_1) (by decide +kernel) (by decide) (by decide)⟩
theorem oX2_readJoin_6 : pm_okF cX2_readJoin RX2 2 false 6 (s_if (fun x => decide (x = 0)) 26 9) := k_if_eq (dk_ifCond_eq (by decide +kernel : bkS cX2_readJoin 6 153 20 = true)) (by decide)
theorem oX2_readJoin_9 : pm_okF cX2_readJoin RX2 2 false 9 (s_al 0 10) := k_aload_n (dk_aload_n_0 (by decide +kernel : bk1 cX2_readJoin 9 42 = true)) rfl
theorem oX2_readJoin_10 : pm_okF cX2_readJoin RX2 2 false 10 (s_const (.int 1) 11) := k_iconst (dk_iconst_1 (by decide +kernel : bk1 cX2_readJoin 10 4 = true)) (by decide)
theorem oX2_readJoin_11 : pm_okF cX2_readJoin RX2 2 false 11 (s_al 0 12) := k_aload_n (dk_aload_n_0 (by decide +kernel : bk1 cX2_readJoin 11 42 = true)) rfl
theorem oX2_readJoin_12 : pm_okF cX2_readJoin RX2 2 false 12 (s_getf 2 0 15) := k_getf (C := RX2) (T := TX2) (N := 10) rfl inX2 (by decide) (wk0 wb_1_133) (dk_getfield (by decide +kernel : bk3 cX2_readJoin 12 180 18 = true))
theorem oX2_readJoin_15 : pm_okF cX2_readJoin RX2 2 false 15 (s_getf 5 0 18) := k_getf (C := RX5) (T := TX5) (N := 15) rfl inX5 (by decide) (wk14 wb_1_42) (dk_getfield (by decide +kernel : bk3 cX2_readJoin 15 180 87 = true))
theorem oX2_readJoin_18 : pm_okF cX2_readJoin RX2 2 false 18 (s_const (.int 1) 19) := k_iconst (dk_iconst_1 (by decide +kernel : bk1 cX2_readJoin 18 4 = true)) (by decide)
theorem oX2_readJoin_19 : pm_okF cX2_readJoin RX2 2 false 19 (s_bin (fun x y => x + y) 20) := k_iadd (dk_iadd (by decide +kernel : bk1 cX2_readJoin 19 96 = true))
theorem oX2_readJoin_20 : ∃ I : pm_M, pm_at pm_P 39 = some I ∧ I.2.2.2.2.2.1 = 0 ∧ I.2.2.2.2.2.2.1 = 0 ∧ pm_okC cX2_readJoin RX2 2 false 20 I.1 I.2.1 I.2.2.1 I.2.2.2.1 3 (some 2) 0 0 := ⟨iX2_takeNumber, aiX2_takeNumber, rfl, rfl, k_callV (n := 2) (T := TX2) (N := 10) (dk_invokevirtual (by decide +kernel : bk3 cX2_readJoin 20 182 80 = true)) rfl (wk1 wb_2_177) (wk0 wb_2_175) (wk0 wb_2_177) (wk8 wb_0_0) (wk2 wb_1_1) (by decide +kernel) (by decide) (by decide)⟩
theorem oX2_readJoin_23 : pm_okF cX2_readJoin RX2 2 false 23 (s_if (fun x => decide (¬ x = 0)) 28 26) := k_if_ne (dk_ifCond_ne (by decide +kernel : bkS cX2_readJoin 23 154 5 = true)) (by decide)
theorem oX2_readJoin_26 : pm_okF cX2_readJoin RX2 2 false 26 (s_const (.int 0) 27) := k_iconst (dk_iconst_0 (by decide +kernel : bk1 cX2_readJoin 26 3 = true)) (by decide)
theorem oX2_readJoin_27 : pm_okR cX2_readJoin (some .boolean) 27 2 := ⟨rfl, (dk_ireturn (by decide +kernel : bk1 cX2_readJoin 27 172 = true))⟩
theorem oX2_readJoin_28 : pm_okF cX2_readJoin RX2 2 false 28 (s_al 0 29) := k_aload_n (dk_aload_n_0 (by decide +kernel : bk1 cX2_readJoin 28 42 = true)) rfl
theorem oX2_readJoin_29 : pm_okF cX2_readJoin RX2 2 false 29 (s_getf 2 9 32) := k_getf (C := RX2) (T := TX2) (N := 10) rfl inX2 (by decide) (wk12 wb_1_133) (dk_getfield (by decide +kernel : bk3 cX2_readJoin 29 180 84 = true))
theorem oX2_readJoin_32 : pm_okF cX2_readJoin RX2 2 false 32 (s_is 1 33) := k_istore_n (dk_istore_n_1 (by decide +kernel : bk1 cX2_readJoin 32 60 = true)) rfl (by decide)
theorem oX2_readJoin_33 : pm_okF cX2_readJoin RX2 2 false 33 (s_al 0 34) := k_aload_n (dk_aload_n_0 (by decide +kernel : bk1 cX2_readJoin 33 42 = true)) rfl
theorem oX2_readJoin_34 : pm_okF cX2_readJoin RX2 2 false 34 (s_getf 2 5 37) := k_getf (C := RX2) (T := TX2) (N := 10) rfl inX2 (by decide) (wk8 wb_1_133) (dk_getfield (by decide +kernel : bk3 cX2_readJoin 34 180 45 = true))
theorem oX2_readJoin_37 : pm_okF cX2_readJoin RX2 2 false 37 (s_const (.int 2) 38) := k_iconst (dk_iconst_2 (by decide +kernel : bk1 cX2_readJoin 37 5 = true)) (by decide)
theorem oX2_readJoin_38 : pm_okF cX2_readJoin RX2 2 false 38 (s_icmp (fun x y => decide (¬ x = y)) 62 41) := k_icmp_ne (dk_if_icmp_ne (by decide +kernel : bkS cX2_readJoin 38 160 24 = true)) (by decide)
theorem oX2_readJoin_41 : pm_okF cX2_readJoin RX2 2 false 41 (s_al 0 42) := k_aload_n (dk_aload_n_0 (by decide +kernel : bk1 cX2_readJoin 41 42 = true)) rfl
theorem oX2_readJoin_42 : pm_okF cX2_readJoin RX2 2 false 42 (s_getf 2 4 45) := k_getf (C := RX2) (T := TX2) (N := 10) rfl inX2 (by decide) (wk7 wb_1_133) (dk_getfield (by decide +kernel : bk3 cX2_readJoin 42 180 25 = true))
theorem oX2_readJoin_45 : pm_okF cX2_readJoin RX2 2 false 45 (s_il 1 46) := k_iload_n (dk_iload_n_1 (by decide +kernel : bk1 cX2_readJoin 45 27 = true)) rfl
theorem oX2_readJoin_46 : pm_okF cX2_readJoin RX2 2 false 46 (s_al 0 47) := k_aload_n (dk_aload_n_0 (by decide +kernel : bk1 cX2_readJoin 46 42 = true)) rfl
theorem oX2_readJoin_47 : pm_okF cX2_readJoin RX2 2 false 47 (s_getf 2 8 50) := k_getf (C := RX2) (T := TX2) (N := 10) rfl inX2 (by decide) (wk11 wb_1_133) (dk_getfield (by decide +kernel : bk3 cX2_readJoin 47 180 118 = true))
theorem oX2_readJoin_50 : ∃ I : pm_M, pm_at pm_P 16 = some I ∧ I.2.2.2.2.2.1 = 0 ∧ I.2.2.2.2.2.2.1 = 0 ∧ pm_okC cX2_readJoin RX2 2 false 50 I.1 I.2.1 I.2.2.1 I.2.2.2.1 3 (some 0) 0 0 := ⟨iX0_joinable, aiX0_joinable, rfl, rfl, k_callV (n := 2) (T := TX0) (N := 2) (dk_invokevirtual (by decide +kernel : bk3 cX2_readJoin 50 182 121 = true)) rfl (wk3 wb_2_204) (wk0 wb_2_204) (wk1 wb_2_204) (wk2 wb_2_204) (wk4 wb_1_1) (by decide +kernel) (by decide) (by decide)⟩
theorem oX2_readJoin_53 : pm_okF cX2_readJoin RX2 2 false 53 (s_if (fun x => decide (¬ x = 0)) 62 56) := k_if_ne (dk_ifCond_ne (by decide +kernel : bkS cX2_readJoin 53 154 9 = true)) (by decide)
theorem oX2_readJoin_56 : pm_okF cX2_readJoin RX2 2 false 56 (s_al 0 57) := k_aload_n (dk_aload_n_0 (by decide +kernel : bk1 cX2_readJoin 56 42 = true)) rfl
theorem oX2_readJoin_57 : pm_okF cX2_readJoin RX2 2 false 57 (s_const (.int 2) 58) := k_iconst (dk_iconst_2 (by decide +kernel : bk1 cX2_readJoin 57 5 = true)) (by decide)
theorem oX2_readJoin_58 : ∃ I : pm_M, pm_at pm_P 38 = some I ∧ I.2.2.2.2.2.1 = 0 ∧ I.2.2.2.2.2.2.1 = 0 ∧ pm_okC cX2_readJoin RX2 2 false 58 I.1 I.2.1 I.2.2.1 I.2.2.2.1 2 (some 2) 0 0 := ⟨iX2_refuse, aiX2_refuse, rfl, rfl, k_callV (n := 1) (T := TX2) (N := 10) (dk_invokevirtual (by decide +kernel : bk3 cX2_readJoin 58 182 104 = true)) rfl (wk1 wb_2_172) (wk0 wb_2_170) (wk0 wb_2_172) (wk7 wb_0_0) (wk2 wb_1_1) (by decide +kernel) (by decide) (by decide)⟩
theorem oX2_readJoin_61 : pm_okR cX2_readJoin (some .boolean) 61 2 := ⟨rfl, (dk_ireturn (by decide +kernel : bk1 cX2_readJoin 61 172 = true))⟩
theorem oX2_readJoin_62 : pm_okF cX2_readJoin RX2 2 false 62 (s_al 0 63) := k_aload_n (dk_aload_n_0 (by decide +kernel : bk1 cX2_readJoin 62 42 = true)) rfl
theorem oX2_readJoin_63 : pm_okF cX2_readJoin RX2 2 false 63 (s_const (.int 1) 64) := k_iconst (dk_iconst_1 (by decide +kernel : bk1 cX2_readJoin 63 4 = true)) (by decide)
theorem oX2_readJoin_64 : pm_okF cX2_readJoin RX2 2 false 64 (s_al 0 65) := k_aload_n (dk_aload_n_0 (by decide +kernel : bk1 cX2_readJoin 64 42 = true)) rfl
theorem oX2_readJoin_65 : pm_okF cX2_readJoin RX2 2 false 65 (s_getf 2 0 68) := k_getf (C := RX2) (T := TX2) (N := 10) rfl inX2 (by decide) (wk0 wb_1_133) (dk_getfield (by decide +kernel : bk3 cX2_readJoin 65 180 18 = true))
theorem oX2_readJoin_68 : pm_okF cX2_readJoin RX2 2 false 68 (s_getf 5 0 71) := k_getf (C := RX5) (T := TX5) (N := 15) rfl inX5 (by decide) (wk14 wb_1_42) (dk_getfield (by decide +kernel : bk3 cX2_readJoin 68 180 87 = true))
theorem oX2_readJoin_71 : pm_okF cX2_readJoin RX2 2 false 71 (s_const (.int 1) 72) := k_iconst (dk_iconst_1 (by decide +kernel : bk1 cX2_readJoin 71 4 = true)) (by decide)
theorem oX2_readJoin_72 : pm_okF cX2_readJoin RX2 2 false 72 (s_bin (fun x y => x + y) 73) := k_iadd (dk_iadd (by decide +kernel : bk1 cX2_readJoin 72 96 = true))
theorem oX2_readJoin_73 : ∃ I : pm_M, pm_at pm_P 39 = some I ∧ I.2.2.2.2.2.1 = 0 ∧ I.2.2.2.2.2.2.1 = 0 ∧ pm_okC cX2_readJoin RX2 2 false 73 I.1 I.2.1 I.2.2.1 I.2.2.2.1 3 (some 2) 0 0 := ⟨iX2_takeNumber, aiX2_takeNumber, rfl, rfl, k_callV (n := 2) (T := TX2) (N := 10) (dk_invokevirtual (by decide +kernel : bk3 cX2_readJoin 73 182 80 = true)) rfl (wk1 wb_2_177) (wk0 wb_2_175) (wk0 wb_2_177) (wk8 wb_0_0) (wk2 wb_1_1) (by decide +kernel) (by decide) (by decide)⟩
theorem oX2_readJoin_76 : pm_okF cX2_readJoin RX2 2 false 76 (s_if (fun x => decide (¬ x = 0)) 81 79) := k_if_ne (dk_ifCond_ne (by decide +kernel : bkS cX2_readJoin 76 154 5 = true)) (by decide)
theorem oX2_readJoin_79 : pm_okF cX2_readJoin RX2 2 false 79 (s_const (.int 0) 80) := k_iconst (dk_iconst_0 (by decide +kernel : bk1 cX2_readJoin 79 3 = true)) (by decide)
theorem oX2_readJoin_80 : pm_okR cX2_readJoin (some .boolean) 80 2 := ⟨rfl, (dk_ireturn (by decide +kernel : bk1 cX2_readJoin 80 172 = true))⟩
theorem oX2_readJoin_81 : pm_okF cX2_readJoin RX2 2 false 81 (s_al 0 82) := k_aload_n (dk_aload_n_0 (by decide +kernel : bk1 cX2_readJoin 81 42 = true)) rfl
theorem oX2_readJoin_82 : pm_okF cX2_readJoin RX2 2 false 82 (s_getf 2 4 85) := k_getf (C := RX2) (T := TX2) (N := 10) rfl inX2 (by decide) (wk7 wb_1_133) (dk_getfield (by decide +kernel : bk3 cX2_readJoin 82 180 25 = true))
theorem oX2_readJoin_85 : pm_okF cX2_readJoin RX2 2 false 85 (s_il 1 86) := k_iload_n (dk_iload_n_1 (by decide +kernel : bk1 cX2_readJoin 85 27 = true)) rfl
theorem oX2_readJoin_86 : pm_okF cX2_readJoin RX2 2 false 86 (s_al 0 87) := k_aload_n (dk_aload_n_0 (by decide +kernel : bk1 cX2_readJoin 86 42 = true)) rfl
theorem oX2_readJoin_87 : pm_okF cX2_readJoin RX2 2 false 87 (s_getf 2 9 90) := k_getf (C := RX2) (T := TX2) (N := 10) rfl inX2 (by decide) (wk12 wb_1_133) (dk_getfield (by decide +kernel : bk3 cX2_readJoin 87 180 84 = true))
theorem oX2_readJoin_90 : ∃ I : pm_M, pm_at pm_P 15 = some I ∧ I.2.2.2.2.2.1 = 0 ∧ I.2.2.2.2.2.2.1 = 0 ∧ pm_okC cX2_readJoin RX2 2 false 90 I.1 I.2.1 I.2.2.1 I.2.2.2.1 3 (some 0) 0 0 := ⟨iX0_join, aiX0_join, rfl, rfl, k_callV (n := 2) (T := TX0) (N := 2) (dk_invokevirtual (by decide +kernel : bk3 cX2_readJoin 90 182 124 = true)) rfl (wk5 wb_2_210) (wk2 wb_2_210) (wk3 wb_2_210) (wk4 wb_2_210) (wk4 wb_1_1) (by decide +kernel) (by decide) (by decide)⟩
theorem oX2_readJoin_93 : pm_okF cX2_readJoin RX2 2 false 93 (s_al 0 94) := k_aload_n (dk_aload_n_0 (by decide +kernel : bk1 cX2_readJoin 93 42 = true)) rfl
theorem oX2_readJoin_94 : pm_okF cX2_readJoin RX2 2 false 94 (s_getf 2 0 97) := k_getf (C := RX2) (T := TX2) (N := 10) rfl inX2 (by decide) (wk0 wb_1_133) (dk_getfield (by decide +kernel : bk3 cX2_readJoin 94 180 18 = true))
theorem oX2_readJoin_97 : pm_okF cX2_readJoin RX2 2 false 97 (s_il 1 98) := k_iload_n (dk_iload_n_1 (by decide +kernel : bk1 cX2_readJoin 97 27 = true)) rfl
theorem oX2_readJoin_98 : pm_okF cX2_readJoin RX2 2 false 98 (s_al 0 99) := k_aload_n (dk_aload_n_0 (by decide +kernel : bk1 cX2_readJoin 98 42 = true)) rfl
theorem oX2_readJoin_99 : pm_okF cX2_readJoin RX2 2 false 99 (s_getf 2 9 102) := k_getf (C := RX2) (T := TX2) (N := 10) rfl inX2 (by decide) (wk12 wb_1_133) (dk_getfield (by decide +kernel : bk3 cX2_readJoin 99 180 84 = true))
theorem oX2_readJoin_102 : ∃ I : pm_M, pm_at pm_P 49 = some I ∧ I.2.2.2.2.2.1 = 0 ∧ I.2.2.2.2.2.2.1 = 0 ∧ pm_okC cX2_readJoin RX2 2 false 102 I.1 I.2.1 I.2.2.1 I.2.2.2.1 3 (some 5) 0 0 := ⟨iX5_addJoin, aiX5_addJoin, rfl, rfl, k_callV (n := 2) (T := TX5) (N := 15) (dk_invokevirtual (by decide +kernel : bk3 cX2_readJoin 102 182 126 = true)) rfl (wk9 wb_2_210) (wk6 wb_2_210) (wk7 wb_2_210) (wk8 wb_2_210) (wk3 wb_1_1) (by decide +kernel) (by decide) (by decide)⟩
theorem oX2_readJoin_105 : pm_okF cX2_readJoin RX2 2 false 105 (s_const (.int 1) 106) := k_iconst (dk_iconst_1 (by decide +kernel : bk1 cX2_readJoin 105 4 = true)) (by decide)
theorem oX2_readJoin_106 : pm_okR cX2_readJoin (some .boolean) 106 2 := ⟨rfl, (dk_ireturn (by decide +kernel : bk1 cX2_readJoin 106 172 = true))⟩
set_option maxRecDepth 20000 in
theorem oX2_readJoin : pm_okM pm_P iX2_readJoin := ⟨(by decide +kernel), (fun h => by cases h), List.forall_mem_cons.mpr ⟨oX2_readJoin_0, List.forall_mem_cons.mpr ⟨oX2_readJoin_1, List.forall_mem_cons.mpr ⟨oX2_readJoin_3, List.forall_mem_cons.mpr ⟨oX2_readJoin_6, List.forall_mem_cons.mpr ⟨oX2_readJoin_9, List.forall_mem_cons.mpr ⟨oX2_readJoin_10, List.forall_mem_cons.mpr ⟨oX2_readJoin_11, List.forall_mem_cons.mpr ⟨oX2_readJoin_12, List.forall_mem_cons.mpr ⟨oX2_readJoin_15, List.forall_mem_cons.mpr ⟨oX2_readJoin_18, List.forall_mem_cons.mpr ⟨oX2_readJoin_19, List.forall_mem_cons.mpr ⟨oX2_readJoin_20, List.forall_mem_cons.mpr ⟨oX2_readJoin_23, List.forall_mem_cons.mpr ⟨oX2_readJoin_26, List.forall_mem_cons.mpr ⟨oX2_readJoin_27, List.forall_mem_cons.mpr ⟨oX2_readJoin_28, List.forall_mem_cons.mpr ⟨oX2_readJoin_29, List.forall_mem_cons.mpr ⟨oX2_readJoin_32, List.forall_mem_cons.mpr ⟨oX2_readJoin_33, List.forall_mem_cons.mpr ⟨oX2_readJoin_34, List.forall_mem_cons.mpr ⟨oX2_readJoin_37, List.forall_mem_cons.mpr ⟨oX2_readJoin_38, List.forall_mem_cons.mpr ⟨oX2_readJoin_41, List.forall_mem_cons.mpr ⟨oX2_readJoin_42, List.forall_mem_cons.mpr ⟨oX2_readJoin_45, List.forall_mem_cons.mpr ⟨oX2_readJoin_46, List.forall_mem_cons.mpr ⟨oX2_readJoin_47, List.forall_mem_cons.mpr ⟨oX2_readJoin_50, List.forall_mem_cons.mpr ⟨oX2_readJoin_53, List.forall_mem_cons.mpr ⟨oX2_readJoin_56, List.forall_mem_cons.mpr ⟨oX2_readJoin_57, List.forall_mem_cons.mpr ⟨oX2_readJoin_58, List.forall_mem_cons.mpr ⟨oX2_readJoin_61, List.forall_mem_cons.mpr ⟨oX2_readJoin_62, List.forall_mem_cons.mpr ⟨oX2_readJoin_63, List.forall_mem_cons.mpr ⟨oX2_readJoin_64, List.forall_mem_cons.mpr ⟨oX2_readJoin_65, List.forall_mem_cons.mpr ⟨oX2_readJoin_68, List.forall_mem_cons.mpr ⟨oX2_readJoin_71, List.forall_mem_cons.mpr ⟨oX2_readJoin_72, List.forall_mem_cons.mpr ⟨oX2_readJoin_73, List.forall_mem_cons.mpr ⟨oX2_readJoin_76, List.forall_mem_cons.mpr ⟨oX2_readJoin_79, List.forall_mem_cons.mpr ⟨oX2_readJoin_80, List.forall_mem_cons.mpr ⟨oX2_readJoin_81, List.forall_mem_cons.mpr ⟨oX2_readJoin_82, List.forall_mem_cons.mpr ⟨oX2_readJoin_85, List.forall_mem_cons.mpr ⟨oX2_readJoin_86, List.forall_mem_cons.mpr ⟨oX2_readJoin_87, List.forall_mem_cons.mpr ⟨oX2_readJoin_90, List.forall_mem_cons.mpr ⟨oX2_readJoin_93, List.forall_mem_cons.mpr ⟨oX2_readJoin_94, List.forall_mem_cons.mpr ⟨oX2_readJoin_97, List.forall_mem_cons.mpr ⟨oX2_readJoin_98, List.forall_mem_cons.mpr ⟨oX2_readJoin_99, List.forall_mem_cons.mpr ⟨oX2_readJoin_102, List.forall_mem_cons.mpr ⟨oX2_readJoin_105, List.forall_mem_cons.mpr ⟨oX2_readJoin_106, fun _ h => absurd h List.not_mem_nil⟩⟩⟩⟩⟩⟩⟩⟩⟩⟩⟩⟩⟩⟩⟩⟩⟩⟩⟩⟩⟩⟩⟩⟩⟩⟩⟩⟩⟩⟩⟩⟩⟩⟩⟩⟩⟩⟩⟩⟩⟩⟩⟩⟩⟩⟩⟩⟩⟩⟩⟩⟩⟩⟩⟩⟩⟩⟩⟩
set_option maxRecDepth 20000 in
theorem oX2_readLetters : pm_okM pm_P iX2_readLetters := rows_F (kd := 0) (plainFor_of_name pnRX2) rfl (abX2_readLetters w0) poRX2_g pcRX2_g rfl (by decide +kernel)
theorem oX2_readLine_0 : pm_okF cX2_readLine RX2 1 false 0 (s_al 0 1) := k_aload_n (dk_aload_n_0 (by decide +kernel : bk1 cX2_readLine 0 42 = true)) rfl
theorem oX2_readLine_1 : pm_okF cX2_readLine RX2 1 false 1 (s_getf 2 0 4) := k_getf (C := RX2) (T := TX2) (N := 10) rfl inX2 (by decide) (wk0 wb_1_133) (dk_getfield (by decide +kernel : bk3 cX2_readLine 1 180 18 = true))
theorem oX2_readLine_4 : pm_okF cX2_readLine RX2 1 false 4 (s_getf 5 3 7) := k_getf (C := RX5) (T := TX5) (N := 15) rfl inX5 (by decide) (wk7 wb_1_58) (dk_getfield (by decide +kernel : bk3 cX2_readLine 4 180 55 = true))
theorem oX2_readLine_7 : pm_okF cX2_readLine RX2 1 false 7 (s_if (fun x => decide (¬ x = 0)) 15 10) := k_if_ne (dk_ifCond_ne (by decide +kernel : bkS cX2_readLine 7 154 8 = true)) (by decide)
theorem oX2_readLine_10 : pm_okF cX2_readLine RX2 1 false 10 (s_al 0 11) := k_aload_n (dk_aload_n_0 (by decide +kernel : bk1 cX2_readLine 10 42 = true)) rfl
theorem oX2_readLine_11 : ∃ I : pm_M, pm_at pm_P 32 = some I ∧ I.2.2.2.2.2.1 = 0 ∧ I.2.2.2.2.2.2.1 = 0 ∧ pm_okC cX2_readLine RX2 1 false 11 I.1 I.2.1 I.2.2.1 I.2.2.2.1 1 (some 2) 0 0 := ⟨iX2_readHead, aiX2_readHead, rfl, rfl, k_callV (n := 0) (T := TX2) (N := 10) (dk_invokevirtual (by decide +kernel : bk3 cX2_readLine 11 182 58 = true)) rfl (wk1 wb_2_111) (wk2 wb_2_107) (wk0 wb_2_111) (wk4 wb_0_0) (wk2 wb_1_1) (by decide +kernel) (by decide) (by decide)⟩
theorem oX2_readLine_14 : pm_okR cX2_readLine (some .boolean) 14 2 := ⟨rfl, (dk_ireturn (by decide +kernel : bk1 cX2_readLine 14 172 = true))⟩
theorem oX2_readLine_15 : pm_okF cX2_readLine RX2 1 false 15 (s_al 0 16) := k_aload_n (dk_aload_n_0 (by decide +kernel : bk1 cX2_readLine 15 42 = true)) rfl
theorem oX2_readLine_16 : pm_okF cX2_readLine RX2 1 false 16 (s_const (.retAddr 8) 18) := k_ldcs (i := 4) (by decide) rfl (dk_ldc (by decide +kernel : bk2 cX2_readLine 16 18 61 = true))
theorem oX2_readLine_18 : ∃ I : pm_M, pm_at pm_P 29 = some I ∧ I.2.2.2.2.2.1 = 0 ∧ I.2.2.2.2.2.2.1 = 0 ∧ pm_okC cX2_readLine RX2 1 false 18 I.1 I.2.1 I.2.2.1 I.2.2.2.1 2 (some 2) 0 0 := ⟨iX2_isWord, aiX2_isWord, rfl, rfl, k_callV (n := 1) (T := TX2) (N := 10) (dk_invokevirtual (by decide +kernel : bk3 cX2_readLine 18 182 63 = true)) rfl (wk1 wb_2_120) (wk2 wb_2_116) (wk0 wb_2_120) (wk6 wb_0_0) (wk2 wb_1_1) (by decide +kernel) (by decide) (by decide)⟩
theorem oX2_readLine_21 : pm_okF cX2_readLine RX2 1 false 21 (s_if (fun x => decide (x = 0)) 29 24) := k_if_eq (dk_ifCond_eq (by decide +kernel : bkS cX2_readLine 21 153 8 = true)) (by decide)
theorem oX2_readLine_24 : pm_okF cX2_readLine RX2 1 false 24 (s_al 0 25) := k_aload_n (dk_aload_n_0 (by decide +kernel : bk1 cX2_readLine 24 42 = true)) rfl
theorem oX2_readLine_25 : ∃ I : pm_M, pm_at pm_P 30 = some I ∧ I.2.2.2.2.2.1 = 0 ∧ I.2.2.2.2.2.2.1 = 0 ∧ pm_okC cX2_readLine RX2 1 false 25 I.1 I.2.1 I.2.2.1 I.2.2.2.1 1 (some 2) 0 0 := ⟨iX2_readCar, aiX2_readCar, rfl, rfl, k_callV (n := 0) (T := TX2) (N := 10) (dk_invokevirtual (by decide +kernel : bk3 cX2_readLine 25 182 67 = true)) rfl (wk1 wb_2_191) (wk0 wb_2_189) (wk0 wb_2_191) (wk9 wb_0_0) (wk2 wb_1_1) (by decide +kernel) (by decide) (by decide)⟩
theorem oX2_readLine_28 : pm_okR cX2_readLine (some .boolean) 28 2 := ⟨rfl, (dk_ireturn (by decide +kernel : bk1 cX2_readLine 28 172 = true))⟩
theorem oX2_readLine_29 : pm_okF cX2_readLine RX2 1 false 29 (s_al 0 30) := k_aload_n (dk_aload_n_0 (by decide +kernel : bk1 cX2_readLine 29 42 = true)) rfl
theorem oX2_readLine_30 : ∃ I : pm_M, pm_at pm_P 33 = some I ∧ I.2.2.2.2.2.1 = 0 ∧ I.2.2.2.2.2.2.1 = 0 ∧ pm_okC cX2_readLine RX2 1 false 30 I.1 I.2.1 I.2.2.1 I.2.2.2.1 1 (some 2) 0 0 := ⟨iX2_readJoin, aiX2_readJoin, rfl, rfl, k_callV (n := 0) (T := TX2) (N := 10) (dk_invokevirtual (by decide +kernel : bk3 cX2_readLine 30 182 70 = true)) rfl (wk1 wb_2_201) (wk4 wb_2_195) (wk0 wb_2_201) (wk10 wb_0_0) (wk2 wb_1_1) (by decide +kernel) (by decide) (by decide)⟩
theorem oX2_readLine_33 : pm_okR cX2_readLine (some .boolean) 33 2 := ⟨rfl, (dk_ireturn (by decide +kernel : bk1 cX2_readLine 33 172 = true))⟩
set_option maxRecDepth 20000 in
theorem oX2_readLine : pm_okM pm_P iX2_readLine := ⟨(by decide +kernel), (fun h => by cases h), List.forall_mem_cons.mpr ⟨oX2_readLine_0, List.forall_mem_cons.mpr ⟨oX2_readLine_1, List.forall_mem_cons.mpr ⟨oX2_readLine_4, List.forall_mem_cons.mpr ⟨oX2_readLine_7, List.forall_mem_cons.mpr ⟨oX2_readLine_10, List.forall_mem_cons.mpr ⟨oX2_readLine_11, List.forall_mem_cons.mpr ⟨oX2_readLine_14, List.forall_mem_cons.mpr ⟨oX2_readLine_15, List.forall_mem_cons.mpr ⟨oX2_readLine_16, List.forall_mem_cons.mpr ⟨oX2_readLine_18, List.forall_mem_cons.mpr ⟨oX2_readLine_21, List.forall_mem_cons.mpr ⟨oX2_readLine_24, List.forall_mem_cons.mpr ⟨oX2_readLine_25, List.forall_mem_cons.mpr ⟨oX2_readLine_28, List.forall_mem_cons.mpr ⟨oX2_readLine_29, List.forall_mem_cons.mpr ⟨oX2_readLine_30, List.forall_mem_cons.mpr ⟨oX2_readLine_33, fun _ h => absurd h List.not_mem_nil⟩⟩⟩⟩⟩⟩⟩⟩⟩⟩⟩⟩⟩⟩⟩⟩⟩⟩
set_option maxRecDepth 20000 in
theorem oX2_readTape : pm_okM pm_P iX2_readTape := rows_F (kd := 0) (plainFor_of_name pnRX2) rfl (abX2_readTape w0) poRX2_g pcRX2_g rfl (by decide +kernel)
set_option maxRecDepth 20000 in
theorem oX2_readToken : pm_okM pm_P iX2_readToken := rows_F (kd := 0) (plainFor_of_name pnRX2) rfl (abX2_readToken w0) poRX2_g pcRX2_g rfl (by decide +kernel)
set_option maxRecDepth 20000 in
theorem oX2_refuse : pm_okM pm_P iX2_refuse := rows_F (kd := 2) (plainFor_of_name pnRX2) rfl (abX2_refuse w0) poRX2_g pcRX2_g rfl (by decide +kernel)
set_option maxRecDepth 20000 in
theorem oX2_takeNumber : pm_okM pm_P iX2_takeNumber := rows_F (kd := 2) (plainFor_of_name pnRX2) rfl (abX2_takeNumber w0) poRX2_g pcRX2_g rfl (by decide +kernel)
set_option maxRecDepth 20000 in
theorem oX2_takeSemicolon : pm_okM pm_P iX2_takeSemicolon := rows_F (kd := 2) (plainFor_of_name pnRX2) rfl (abX2_takeSemicolon w0) poRX2_g pcRX2_g rfl (by decide +kernel)
set_option maxRecDepth 20000 in
theorem oX2_takeWord : pm_okM pm_P iX2_takeWord := rows_F (kd := 2) (plainFor_of_name pnRX2) rfl (abX2_takeWord w0) poRX2_g pcRX2_g rfl (by decide +kernel)
set_option maxRecDepth 20000 in
theorem oX3_fill : pm_okM pm_P iX3_fill := rows_F (kd := 0) (plainFor_of_name pnRX3) rfl (abX3_fill w0) poRX3_g pcRX3_g rfl (by decide +kernel)
theorem oX3_init_0 : pm_okF cX3_init RX3 1 true 0 (s_al 0 1) := k_aload_n (dk_aload_n_0 (by decide +kernel : bk1 cX3_init 0 42 = true)) rfl
theorem oX3_init_1 : pm_okF cX3_init RX3 1 true 1 (s_obj 4) := k_obj (wk7 wb_2_9) (wk9 wb_1_15) (wk10 wb_1_15) (dk_invokespecial (by decide +kernel : bk3 cX3_init 1 183 3 = true))
theorem oX3_init_4 : pm_okF cX3_init RX3 1 true 4 (s_al 0 5) := k_aload_n (dk_aload_n_0 (by decide +kernel : bk1 cX3_init 4 42 = true)) rfl
theorem oX3_init_5 : pm_okF cX3_init RX3 1 true 5 (s_const (.int 256) 8) := k_sipush (dk_sipush (by decide +kernel : bkS cX3_init 5 17 256 = true)) (by decide)
theorem oX3_init_8 : pm_okF cX3_init RX3 1 true 8 (s_newa 0 (.inl (fun _ => 0)) 10) := k_newa_int (by decide +kernel : decode cX3_init 8 = .ok (.newarray .int, 2))
theorem oX3_init_10 : pm_okF cX3_init RX3 1 true 10 (s_putf 3 0 (.array .int) 13) := k_putF (C := RX3) (T := TX3) (N := 2) rfl inX3 tyX3_ok nmX3 (by decide) rfl rfl rfl (wk8 wb_2_9) (dk_putfield (by decide +kernel : bk3 cX3_init 10 181 9 = true))
theorem oX3_init_13 : pm_okF cX3_init RX3 1 true 13 (s_al 0 14) := k_aload_n (dk_aload_n_0 (by decide +kernel : bk1 cX3_init 13 42 = true)) rfl
theorem oX3_init_14 : pm_okF cX3_init RX3 1 true 14 (s_const (.int 256) 17) := k_sipush (dk_sipush (by decide +kernel : bkS cX3_init 14 17 256 = true)) (by decide)
theorem oX3_init_17 : pm_okF cX3_init RX3 1 true 17 (s_newa 0 (.inl (fun _ => 0)) 19) := k_newa_int (by decide +kernel : decode cX3_init 17 = .ok (.newarray .int, 2))
theorem oX3_init_19 : pm_okF cX3_init RX3 1 true 19 (s_putf 3 1 (.array .int) 22) := k_putF (C := RX3) (T := TX3) (N := 2) rfl inX3 tyX3_ok nmX3 (by decide) rfl rfl rfl (wk10 wb_2_9) (dk_putfield (by decide +kernel : bk3 cX3_init 19 181 15 = true))
theorem oX3_init_22 : pm_okR cX3_init none 22 0 := ⟨rfl, (dk_return (by decide +kernel : bk1 cX3_init 22 177 = true))⟩
set_option maxRecDepth 20000 in
theorem oX3_init : pm_okM pm_P iX3_init := ⟨rfl, fun _ => rfl, List.forall_mem_cons.mpr ⟨oX3_init_0, List.forall_mem_cons.mpr ⟨oX3_init_1, List.forall_mem_cons.mpr ⟨oX3_init_4, List.forall_mem_cons.mpr ⟨oX3_init_5, List.forall_mem_cons.mpr ⟨oX3_init_8, List.forall_mem_cons.mpr ⟨oX3_init_10, List.forall_mem_cons.mpr ⟨oX3_init_13, List.forall_mem_cons.mpr ⟨oX3_init_14, List.forall_mem_cons.mpr ⟨oX3_init_17, List.forall_mem_cons.mpr ⟨oX3_init_19, List.forall_mem_cons.mpr ⟨oX3_init_22, fun _ h => absurd h List.not_mem_nil⟩⟩⟩⟩⟩⟩⟩⟩⟩⟩⟩⟩
set_option maxRecDepth 20000 in
theorem oX4_begin : pm_okM pm_P iX4_begin := rows_F (kd := 0) (plainFor_of_name pnRX4) rfl (abX4_begin w0) poRX4_g pcRX4_g rfl (by decide +kernel)
set_option maxRecDepth 20000 in
theorem oX4_holds : pm_okM pm_P iX4_holds := rows_F (kd := 2) (plainFor_of_name pnRX4) rfl (abX4_holds w0) poRX4_g pcRX4_g rfl (by decide +kernel)
theorem oX4_init_0 : pm_okF cX4_init RX4 1 true 0 (s_al 0 1) := k_aload_n (dk_aload_n_0 (by decide +kernel : bk1 cX4_init 0 42 = true)) rfl
theorem oX4_init_1 : pm_okF cX4_init RX4 1 true 1 (s_obj 4) := k_obj (wk4 wb_1_172) (wk9 wb_1_15) (wk10 wb_1_15) (dk_invokespecial (by decide +kernel : bk3 cX4_init 1 183 3 = true))
theorem oX4_init_4 : pm_okF cX4_init RX4 1 true 4 (s_al 0 5) := k_aload_n (dk_aload_n_0 (by decide +kernel : bk1 cX4_init 4 42 = true)) rfl
theorem oX4_init_5 : pm_okF cX4_init RX4 1 true 5 (s_const (.int 60) 7) := k_bipush (dk_bipush (by decide +kernel : bkB cX4_init 5 16 60 = true)) (by decide)
theorem oX4_init_7 : pm_okF cX4_init RX4 1 true 7 (s_newa 3 (.inr (.inl (fun _ => 0))) 9) := k_newa_long (by decide +kernel : decode cX4_init 7 = .ok (.newarray .long, 2))
theorem oX4_init_9 : pm_okF cX4_init RX4 1 true 9 (s_putf 4 0 (.array .long) 12) := k_putF (C := RX4) (T := TX4) (N := 4) rfl inX4 tyX4_ok nmX4 (by decide) rfl rfl rfl (wk5 wb_1_172) (dk_putfield (by decide +kernel : bk3 cX4_init 9 181 9 = true))
theorem oX4_init_12 : pm_okR cX4_init none 12 0 := ⟨rfl, (dk_return (by decide +kernel : bk1 cX4_init 12 177 = true))⟩
set_option maxRecDepth 20000 in
theorem oX4_init : pm_okM pm_P iX4_init := ⟨rfl, fun _ => rfl, List.forall_mem_cons.mpr ⟨oX4_init_0, List.forall_mem_cons.mpr ⟨oX4_init_1, List.forall_mem_cons.mpr ⟨oX4_init_4, List.forall_mem_cons.mpr ⟨oX4_init_5, List.forall_mem_cons.mpr ⟨oX4_init_7, List.forall_mem_cons.mpr ⟨oX4_init_9, List.forall_mem_cons.mpr ⟨oX4_init_12, fun _ h => absurd h List.not_mem_nil⟩⟩⟩⟩⟩⟩⟩⟩
set_option maxRecDepth 20000 in
theorem oX5_addAct : pm_okM pm_P iX5_addAct := rows_F (kd := 0) (plainFor_of_name pnRX5) rfl (abX5_addAct w0) poRX5_g pcRX5_g rfl (by decide +kernel)
set_option maxRecDepth 20000 in
theorem oX5_addCar : pm_okM pm_P iX5_addCar := rows_F (kd := 0) (plainFor_of_name pnRX5) rfl (abX5_addCar w0) poRX5_g pcRX5_g rfl (by decide +kernel)
set_option maxRecDepth 20000 in
theorem oX5_addJoin : pm_okM pm_P iX5_addJoin := rows_F (kd := 0) (plainFor_of_name pnRX5) rfl (abX5_addJoin w0) poRX5_g pcRX5_g rfl (by decide +kernel)
set_option maxRecDepth 20000 in
theorem oX5_clear : pm_okM pm_P iX5_clear := rows_F (kd := 0) (plainFor_of_name pnRX5) rfl (abX5_clear w0) poRX5_g pcRX5_g rfl (by decide +kernel)
set_option maxRecDepth 20000 in
theorem oX5_doAct : pm_okM pm_P iX5_doAct := rows_F (kd := 0) (plainFor_of_name pnRX5) rfl (abX5_doAct w0) poRX5_g pcRX5_g rfl (by decide +kernel)
theorem oX5_init_0 : pm_okF cX5_init RX5 1 true 0 (s_al 0 1) := k_aload_n (dk_aload_n_0 (by decide +kernel : bk1 cX5_init 0 42 = true)) rfl
theorem oX5_init_1 : pm_okF cX5_init RX5 1 true 1 (s_obj 4) := k_obj (wk12 wb_1_42) (wk9 wb_1_15) (wk10 wb_1_15) (dk_invokespecial (by decide +kernel : bk3 cX5_init 1 183 3 = true))
theorem oX5_init_4 : pm_okF cX5_init RX5 1 true 4 (s_al 0 5) := k_aload_n (dk_aload_n_0 (by decide +kernel : bk1 cX5_init 4 42 = true)) rfl
theorem oX5_init_5 : pm_okF cX5_init RX5 1 true 5 (s_const (.int 8) 7) := k_bipush (dk_bipush (by decide +kernel : bkB cX5_init 5 16 8 = true)) (by decide)
theorem oX5_init_7 : pm_okF cX5_init RX5 1 true 7 (s_newa 0 (.inl (fun _ => 0)) 9) := k_newa_int (by decide +kernel : decode cX5_init 7 = .ok (.newarray .int, 2))
theorem oX5_init_9 : pm_okF cX5_init RX5 1 true 9 (s_putf 5 7 (.array .int) 12) := k_putF (C := RX5) (T := TX5) (N := 15) rfl inX5 tyX5_ok nmX5 (by decide) rfl rfl rfl (wk0 wb_1_74) (dk_putfield (by decide +kernel : bk3 cX5_init 9 181 9 = true))
theorem oX5_init_12 : pm_okF cX5_init RX5 1 true 12 (s_al 0 13) := k_aload_n (dk_aload_n_0 (by decide +kernel : bk1 cX5_init 12 42 = true)) rfl
theorem oX5_init_13 : pm_okF cX5_init RX5 1 true 13 (s_const (.int 8) 15) := k_bipush (dk_bipush (by decide +kernel : bkB cX5_init 13 16 8 = true)) (by decide)
theorem oX5_init_15 : pm_okF cX5_init RX5 1 true 15 (s_newa 0 (.inl (fun _ => 0)) 17) := k_newa_int (by decide +kernel : decode cX5_init 15 = .ok (.newarray .int, 2))
theorem oX5_init_17 : pm_okF cX5_init RX5 1 true 17 (s_putf 5 8 (.array .int) 20) := k_putF (C := RX5) (T := TX5) (N := 15) rfl inX5 tyX5_ok nmX5 (by decide) rfl rfl rfl (wk1 wb_1_74) (dk_putfield (by decide +kernel : bk3 cX5_init 17 181 15 = true))
theorem oX5_init_20 : pm_okF cX5_init RX5 1 true 20 (s_al 0 21) := k_aload_n (dk_aload_n_0 (by decide +kernel : bk1 cX5_init 20 42 = true)) rfl
theorem oX5_init_21 : pm_okF cX5_init RX5 1 true 21 (s_const (.int 8) 23) := k_bipush (dk_bipush (by decide +kernel : bkB cX5_init 21 16 8 = true)) (by decide)
theorem oX5_init_23 : pm_okF cX5_init RX5 1 true 23 (s_newa 0 (.inl (fun _ => 0)) 25) := k_newa_int (by decide +kernel : decode cX5_init 23 = .ok (.newarray .int, 2))
theorem oX5_init_25 : pm_okF cX5_init RX5 1 true 25 (s_putf 5 9 (.array .int) 28) := k_putF (C := RX5) (T := TX5) (N := 15) rfl inX5 tyX5_ok nmX5 (by decide) rfl rfl rfl (wk3 wb_1_74) (dk_putfield (by decide +kernel : bk3 cX5_init 25 181 18 = true))
theorem oX5_init_28 : pm_okF cX5_init RX5 1 true 28 (s_al 0 29) := k_aload_n (dk_aload_n_0 (by decide +kernel : bk1 cX5_init 28 42 = true)) rfl
theorem oX5_init_29 : pm_okF cX5_init RX5 1 true 29 (s_const (.int 8) 31) := k_bipush (dk_bipush (by decide +kernel : bkB cX5_init 29 16 8 = true)) (by decide)
theorem oX5_init_31 : pm_okF cX5_init RX5 1 true 31 (s_newa 0 (.inl (fun _ => 0)) 33) := k_newa_int (by decide +kernel : decode cX5_init 31 = .ok (.newarray .int, 2))
theorem oX5_init_33 : pm_okF cX5_init RX5 1 true 33 (s_putf 5 10 (.array .int) 36) := k_putF (C := RX5) (T := TX5) (N := 15) rfl inX5 tyX5_ok nmX5 (by decide) rfl rfl rfl (wk5 wb_1_74) (dk_putfield (by decide +kernel : bk3 cX5_init 33 181 21 = true))
theorem oX5_init_36 : pm_okF cX5_init RX5 1 true 36 (s_al 0 37) := k_aload_n (dk_aload_n_0 (by decide +kernel : bk1 cX5_init 36 42 = true)) rfl
theorem oX5_init_37 : pm_okF cX5_init RX5 1 true 37 (s_const (.int 8) 39) := k_bipush (dk_bipush (by decide +kernel : bkB cX5_init 37 16 8 = true)) (by decide)
theorem oX5_init_39 : pm_okF cX5_init RX5 1 true 39 (s_newa 0 (.inl (fun _ => 0)) 41) := k_newa_int (by decide +kernel : decode cX5_init 39 = .ok (.newarray .int, 2))
theorem oX5_init_41 : pm_okF cX5_init RX5 1 true 41 (s_putf 5 11 (.array .int) 44) := k_putF (C := RX5) (T := TX5) (N := 15) rfl inX5 tyX5_ok nmX5 (by decide) rfl rfl rfl (wk7 wb_1_74) (dk_putfield (by decide +kernel : bk3 cX5_init 41 181 24 = true))
theorem oX5_init_44 : pm_okF cX5_init RX5 1 true 44 (s_al 0 45) := k_aload_n (dk_aload_n_0 (by decide +kernel : bk1 cX5_init 44 42 = true)) rfl
theorem oX5_init_45 : pm_okF cX5_init RX5 1 true 45 (s_const (.int 20) 47) := k_bipush (dk_bipush (by decide +kernel : bkB cX5_init 45 16 20 = true)) (by decide)
theorem oX5_init_47 : pm_okF cX5_init RX5 1 true 47 (s_newa 0 (.inl (fun _ => 0)) 49) := k_newa_int (by decide +kernel : decode cX5_init 47 = .ok (.newarray .int, 2))
theorem oX5_init_49 : pm_okF cX5_init RX5 1 true 49 (s_putf 5 12 (.array .int) 52) := k_putF (C := RX5) (T := TX5) (N := 15) rfl inX5 tyX5_ok nmX5 (by decide) rfl rfl rfl (wk9 wb_1_74) (dk_putfield (by decide +kernel : bk3 cX5_init 49 181 27 = true))
theorem oX5_init_52 : pm_okF cX5_init RX5 1 true 52 (s_al 0 53) := k_aload_n (dk_aload_n_0 (by decide +kernel : bk1 cX5_init 52 42 = true)) rfl
theorem oX5_init_53 : pm_okF cX5_init RX5 1 true 53 (s_const (.int 20) 55) := k_bipush (dk_bipush (by decide +kernel : bkB cX5_init 53 16 20 = true)) (by decide)
theorem oX5_init_55 : pm_okF cX5_init RX5 1 true 55 (s_newa 0 (.inl (fun _ => 0)) 57) := k_newa_int (by decide +kernel : decode cX5_init 55 = .ok (.newarray .int, 2))
theorem oX5_init_57 : pm_okF cX5_init RX5 1 true 57 (s_putf 5 13 (.array .int) 60) := k_putF (C := RX5) (T := TX5) (N := 15) rfl inX5 tyX5_ok nmX5 (by decide) rfl rfl rfl (wk10 wb_1_74) (dk_putfield (by decide +kernel : bk3 cX5_init 57 181 30 = true))
theorem oX5_init_60 : pm_okF cX5_init RX5 1 true 60 (s_al 0 61) := k_aload_n (dk_aload_n_0 (by decide +kernel : bk1 cX5_init 60 42 = true)) rfl
theorem oX5_init_61 : pm_okF cX5_init RX5 1 true 61 (s_const (.int 20) 63) := k_bipush (dk_bipush (by decide +kernel : bkB cX5_init 61 16 20 = true)) (by decide)
theorem oX5_init_63 : pm_okF cX5_init RX5 1 true 63 (s_newa 2 (.inl (fun _ => 0)) 65) := k_newa_boolean (by decide +kernel : decode cX5_init 63 = .ok (.newarray .boolean, 2))
theorem oX5_init_65 : pm_okF cX5_init RX5 1 true 65 (s_putf 5 14 (.array .boolean) 68) := k_putF (C := RX5) (T := TX5) (N := 15) rfl inX5 tyX5_ok nmX5 (by decide) rfl rfl rfl (wk11 wb_1_74) (dk_putfield (by decide +kernel : bk3 cX5_init 65 181 33 = true))
theorem oX5_init_68 : pm_okR cX5_init none 68 0 := ⟨rfl, (dk_return (by decide +kernel : bk1 cX5_init 68 177 = true))⟩
set_option maxRecDepth 20000 in
theorem oX5_init : pm_okM pm_P iX5_init := ⟨rfl, fun _ => rfl, List.forall_mem_cons.mpr ⟨oX5_init_0, List.forall_mem_cons.mpr ⟨oX5_init_1, List.forall_mem_cons.mpr ⟨oX5_init_4, List.forall_mem_cons.mpr ⟨oX5_init_5, List.forall_mem_cons.mpr ⟨oX5_init_7, List.forall_mem_cons.mpr ⟨oX5_init_9, List.forall_mem_cons.mpr ⟨oX5_init_12, List.forall_mem_cons.mpr ⟨oX5_init_13, List.forall_mem_cons.mpr ⟨oX5_init_15, List.forall_mem_cons.mpr ⟨oX5_init_17, List.forall_mem_cons.mpr ⟨oX5_init_20, List.forall_mem_cons.mpr ⟨oX5_init_21, List.forall_mem_cons.mpr ⟨oX5_init_23, List.forall_mem_cons.mpr ⟨oX5_init_25, List.forall_mem_cons.mpr ⟨oX5_init_28, List.forall_mem_cons.mpr ⟨oX5_init_29, List.forall_mem_cons.mpr ⟨oX5_init_31, List.forall_mem_cons.mpr ⟨oX5_init_33, List.forall_mem_cons.mpr ⟨oX5_init_36, List.forall_mem_cons.mpr ⟨oX5_init_37, List.forall_mem_cons.mpr ⟨oX5_init_39, List.forall_mem_cons.mpr ⟨oX5_init_41, List.forall_mem_cons.mpr ⟨oX5_init_44, List.forall_mem_cons.mpr ⟨oX5_init_45, List.forall_mem_cons.mpr ⟨oX5_init_47, List.forall_mem_cons.mpr ⟨oX5_init_49, List.forall_mem_cons.mpr ⟨oX5_init_52, List.forall_mem_cons.mpr ⟨oX5_init_53, List.forall_mem_cons.mpr ⟨oX5_init_55, List.forall_mem_cons.mpr ⟨oX5_init_57, List.forall_mem_cons.mpr ⟨oX5_init_60, List.forall_mem_cons.mpr ⟨oX5_init_61, List.forall_mem_cons.mpr ⟨oX5_init_63, List.forall_mem_cons.mpr ⟨oX5_init_65, List.forall_mem_cons.mpr ⟨oX5_init_68, fun _ h => absurd h List.not_mem_nil⟩⟩⟩⟩⟩⟩⟩⟩⟩⟩⟩⟩⟩⟩⟩⟩⟩⟩⟩⟩⟩⟩⟩⟩⟩⟩⟩⟩⟩⟩⟩⟩⟩⟩⟩⟩
set_option maxRecDepth 20000 in
theorem oX5_keepActs : pm_okM pm_P iX5_keepActs := rows_F (kd := 0) (plainFor_of_name pnRX5) rfl (abX5_keepActs w0) poRX5_g pcRX5_g rfl (by decide +kernel)
set_option maxRecDepth 20000 in
theorem oX5_take : pm_okM pm_P iX5_take := rows_F (kd := 0) (plainFor_of_name pnRX5) rfl (abX5_take w0) poRX5_g pcRX5_g rfl (by decide +kernel)
end
section
/-! the rows are sound (written by tab2.py) -/
set_option maxRecDepth 20000 in
theorem oX6_add : pm_okM pm_P iX6_add := rows_F (kd := 0) (plainFor_of_name pnRX6) rfl (abX6_add w0) poRX6_g pcRX6_g rfl (by decide +kernel)
theorem oX6_init_0 : pm_okF cX6_init RX6 1 true 0 (s_al 0 1) := k_aload_n (dk_aload_n_0 (by decide +kernel : bk1 cX6_init 0 42 = true)) rfl
theorem oX6_init_1 : pm_okF cX6_init RX6 1 true 1 (s_obj 4) := k_obj (wk0 wb_1_31) (wk9 wb_1_15) (wk10 wb_1_15) (dk_invokespecial (by decide +kernel : bk3 cX6_init 1 183 3 = true))
theorem oX6_init_4 : pm_okF cX6_init RX6 1 true 4 (s_al 0 5) := k_aload_n (dk_aload_n_0 (by decide +kernel : bk1 cX6_init 4 42 = true)) rfl
theorem oX6_init_5 : pm_okF cX6_init RX6 1 true 5 (s_const (.int 500) 8) := k_sipush (dk_sipush (by decide +kernel : bkS cX6_init 5 17 500 = true)) (by decide)
theorem oX6_init_8 : pm_okF cX6_init RX6 1 true 8 (s_newa 1 (.inl (fun _ => 0)) 10) := k_newa_byte (by decide +kernel : decode cX6_init 8 = .ok (.newarray .byte, 2))
theorem oX6_init_10 : pm_okF cX6_init RX6 1 true 10 (s_putf 6 0 (.array .byte) 13) := k_putF (C := RX6) (T := TX6) (N := 2) rfl inX6 tyX6_ok nmX6 (by decide) rfl rfl rfl (wk1 wb_1_31) (dk_putfield (by decide +kernel : bk3 cX6_init 10 181 9 = true))
theorem oX6_init_13 : pm_okR cX6_init none 13 0 := ⟨rfl, (dk_return (by decide +kernel : bk1 cX6_init 13 177 = true))⟩
set_option maxRecDepth 20000 in
theorem oX6_init : pm_okM pm_P iX6_init := ⟨rfl, fun _ => rfl, List.forall_mem_cons.mpr ⟨oX6_init_0, List.forall_mem_cons.mpr ⟨oX6_init_1, List.forall_mem_cons.mpr ⟨oX6_init_4, List.forall_mem_cons.mpr ⟨oX6_init_5, List.forall_mem_cons.mpr ⟨oX6_init_8, List.forall_mem_cons.mpr ⟨oX6_init_10, List.forall_mem_cons.mpr ⟨oX6_init_13, fun _ h => absurd h List.not_mem_nil⟩⟩⟩⟩⟩⟩⟩⟩
set_option maxRecDepth 20000 in
theorem oX7_addLimb : pm_okM pm_P iX7_addLimb := rows_F (kd := 0) (plainFor_of_name pnRX7) rfl (abX7_addLimb w0) poRX7_g pcRX7_g rfl (by decide +kernel)
set_option maxRecDepth 20000 in
theorem oX7_begin : pm_okM pm_P iX7_begin := rows_F (kd := 0) (plainFor_of_name pnRX7) rfl (abX7_begin w0) poRX7_g pcRX7_g rfl (by decide +kernel)
set_option maxRecDepth 20000 in
theorem oX7_bring : pm_okM pm_P iX7_bring := rows_F (kd := 0) (plainFor_of_name pnRX7) rfl (abX7_bring w0) poRX7_g pcRX7_g rfl (by decide +kernel)
set_option maxRecDepth 20000 in
theorem oX7_clearLimbs : pm_okM pm_P iX7_clearLimbs := rows_F (kd := 0) (plainFor_of_name pnRX7) rfl (abX7_clearLimbs w0) poRX7_g pcRX7_g rfl (by decide +kernel)
set_option maxRecDepth 20000 in
theorem oX7_codeNumber : pm_okM pm_P iX7_codeNumber := rows_F (kd := 1) (plainFor_of_name pnRX7) rfl (abX7_codeNumber w0) poRX7_g pcRX7_g rfl (by decide +kernel)
set_option maxRecDepth 20000 in
theorem oX7_decode : pm_okM pm_P iX7_decode := rows_F (kd := 0) (plainFor_of_name pnRX7) rfl (abX7_decode w0) poRX7_g pcRX7_g rfl (by decide +kernel)
set_option maxRecDepth 20000 in
theorem oX7_hang : pm_okM pm_P iX7_hang := rows_F (kd := 0) (plainFor_of_name pnRX7) rfl (abX7_hang w0) poRX7_g pcRX7_g rfl (by decide +kernel)
set_option maxRecDepth 20000 in
theorem oX7_hangByLimbs : pm_okM pm_P iX7_hangByLimbs := rows_F (kd := 0) (plainFor_of_name pnRX7) rfl (abX7_hangByLimbs w0) poRX7_g pcRX7_g rfl (by decide +kernel)
set_option maxRecDepth 20000 in
theorem oX7_hangingFrom : pm_okM pm_P iX7_hangingFrom := rows_F (kd := 1) (plainFor_of_name pnRX7) rfl (abX7_hangingFrom w0) poRX7_g pcRX7_g rfl (by decide +kernel)
theorem oX7_init_0 : pm_okF cX7_init RX7 1 true 0 (s_al 0 1) := k_aload_n (dk_aload_n_0 (by decide +kernel : bk1 cX7_init 0 42 = true)) rfl
theorem oX7_init_1 : pm_okF cX7_init RX7 1 true 1 (s_obj 4) := k_obj (wk5 wb_1_218) (wk9 wb_1_15) (wk10 wb_1_15) (dk_invokespecial (by decide +kernel : bk3 cX7_init 1 183 3 = true))
theorem oX7_init_4 : pm_okF cX7_init RX7 1 true 4 (s_al 0 5) := k_aload_n (dk_aload_n_0 (by decide +kernel : bk1 cX7_init 4 42 = true)) rfl
theorem oX7_init_5 : pm_okF cX7_init RX7 1 true 5 (s_const (.int 9) 7) := k_bipush (dk_bipush (by decide +kernel : bkB cX7_init 5 16 9 = true)) (by decide)
theorem oX7_init_7 : pm_okF cX7_init RX7 1 true 7 (s_newa 0 (.inl (fun _ => 0)) 9) := k_newa_int (by decide +kernel : decode cX7_init 7 = .ok (.newarray .int, 2))
theorem oX7_init_9 : pm_okF cX7_init RX7 1 true 9 (s_putf 7 0 (.array .int) 12) := k_putF (C := RX7) (T := TX7) (N := 7) rfl inX7 tyX7_ok nmX7 (by decide) rfl rfl rfl (wk6 wb_1_218) (dk_putfield (by decide +kernel : bk3 cX7_init 9 181 9 = true))
theorem oX7_init_12 : pm_okF cX7_init RX7 1 true 12 (s_al 0 13) := k_aload_n (dk_aload_n_0 (by decide +kernel : bk1 cX7_init 12 42 = true)) rfl
theorem oX7_init_13 : pm_okF cX7_init RX7 1 true 13 (s_const (.int 9) 15) := k_bipush (dk_bipush (by decide +kernel : bkB cX7_init 13 16 9 = true)) (by decide)
theorem oX7_init_15 : pm_okF cX7_init RX7 1 true 15 (s_newa 0 (.inl (fun _ => 0)) 17) := k_newa_int (by decide +kernel : decode cX7_init 15 = .ok (.newarray .int, 2))
theorem oX7_init_17 : pm_okF cX7_init RX7 1 true 17 (s_putf 7 1 (.array .int) 20) := k_putF (C := RX7) (T := TX7) (N := 7) rfl inX7 tyX7_ok nmX7 (by decide) rfl rfl rfl (wk8 wb_1_218) (dk_putfield (by decide +kernel : bk3 cX7_init 17 181 15 = true))
theorem oX7_init_20 : pm_okF cX7_init RX7 1 true 20 (s_al 0 21) := k_aload_n (dk_aload_n_0 (by decide +kernel : bk1 cX7_init 20 42 = true)) rfl
theorem oX7_init_21 : pm_okF cX7_init RX7 1 true 21 (s_const (.int 9) 23) := k_bipush (dk_bipush (by decide +kernel : bkB cX7_init 21 16 9 = true)) (by decide)
theorem oX7_init_23 : pm_okF cX7_init RX7 1 true 23 (s_newa 0 (.inl (fun _ => 0)) 25) := k_newa_int (by decide +kernel : decode cX7_init 23 = .ok (.newarray .int, 2))
theorem oX7_init_25 : pm_okF cX7_init RX7 1 true 25 (s_putf 7 2 (.array .int) 28) := k_putF (C := RX7) (T := TX7) (N := 7) rfl inX7 tyX7_ok nmX7 (by decide) rfl rfl rfl (wk10 wb_1_218) (dk_putfield (by decide +kernel : bk3 cX7_init 25 181 18 = true))
theorem oX7_init_28 : pm_okF cX7_init RX7 1 true 28 (s_al 0 29) := k_aload_n (dk_aload_n_0 (by decide +kernel : bk1 cX7_init 28 42 = true)) rfl
theorem oX7_init_29 : pm_okF cX7_init RX7 1 true 29 (s_const (.int 9) 31) := k_bipush (dk_bipush (by decide +kernel : bkB cX7_init 29 16 9 = true)) (by decide)
theorem oX7_init_31 : pm_okF cX7_init RX7 1 true 31 (s_newa 0 (.inl (fun _ => 0)) 33) := k_newa_int (by decide +kernel : decode cX7_init 31 = .ok (.newarray .int, 2))
theorem oX7_init_33 : pm_okF cX7_init RX7 1 true 33 (s_putf 7 3 (.array .int) 36) := k_putF (C := RX7) (T := TX7) (N := 7) rfl inX7 tyX7_ok nmX7 (by decide) rfl rfl rfl (wk12 wb_1_218) (dk_putfield (by decide +kernel : bk3 cX7_init 33 181 21 = true))
theorem oX7_init_36 : pm_okF cX7_init RX7 1 true 36 (s_al 0 37) := k_aload_n (dk_aload_n_0 (by decide +kernel : bk1 cX7_init 36 42 = true)) rfl
theorem oX7_init_37 : pm_okF cX7_init RX7 1 true 37 (s_const (.int 9) 39) := k_bipush (dk_bipush (by decide +kernel : bkB cX7_init 37 16 9 = true)) (by decide)
theorem oX7_init_39 : pm_okF cX7_init RX7 1 true 39 (s_newa 0 (.inl (fun _ => 0)) 41) := k_newa_int (by decide +kernel : decode cX7_init 39 = .ok (.newarray .int, 2))
theorem oX7_init_41 : pm_okF cX7_init RX7 1 true 41 (s_putf 7 4 (.array .int) 44) := k_putF (C := RX7) (T := TX7) (N := 7) rfl inX7 tyX7_ok nmX7 (by decide) rfl rfl rfl (wk13 wb_1_218) (dk_putfield (by decide +kernel : bk3 cX7_init 41 181 24 = true))
theorem oX7_init_44 : pm_okR cX7_init none 44 0 := ⟨rfl, (dk_return (by decide +kernel : bk1 cX7_init 44 177 = true))⟩
set_option maxRecDepth 20000 in
theorem oX7_init : pm_okM pm_P iX7_init := ⟨rfl, fun _ => rfl, List.forall_mem_cons.mpr ⟨oX7_init_0, List.forall_mem_cons.mpr ⟨oX7_init_1, List.forall_mem_cons.mpr ⟨oX7_init_4, List.forall_mem_cons.mpr ⟨oX7_init_5, List.forall_mem_cons.mpr ⟨oX7_init_7, List.forall_mem_cons.mpr ⟨oX7_init_9, List.forall_mem_cons.mpr ⟨oX7_init_12, List.forall_mem_cons.mpr ⟨oX7_init_13, List.forall_mem_cons.mpr ⟨oX7_init_15, List.forall_mem_cons.mpr ⟨oX7_init_17, List.forall_mem_cons.mpr ⟨oX7_init_20, List.forall_mem_cons.mpr ⟨oX7_init_21, List.forall_mem_cons.mpr ⟨oX7_init_23, List.forall_mem_cons.mpr ⟨oX7_init_25, List.forall_mem_cons.mpr ⟨oX7_init_28, List.forall_mem_cons.mpr ⟨oX7_init_29, List.forall_mem_cons.mpr ⟨oX7_init_31, List.forall_mem_cons.mpr ⟨oX7_init_33, List.forall_mem_cons.mpr ⟨oX7_init_36, List.forall_mem_cons.mpr ⟨oX7_init_37, List.forall_mem_cons.mpr ⟨oX7_init_39, List.forall_mem_cons.mpr ⟨oX7_init_41, List.forall_mem_cons.mpr ⟨oX7_init_44, fun _ h => absurd h List.not_mem_nil⟩⟩⟩⟩⟩⟩⟩⟩⟩⟩⟩⟩⟩⟩⟩⟩⟩⟩⟩⟩⟩⟩⟩⟩
set_option maxRecDepth 20000 in
theorem oX7_leastUnwritten : pm_okM pm_P iX7_leastUnwritten := rows_F (kd := 1) (plainFor_of_name pnRX7) rfl (abX7_leastUnwritten w0) poRX7_g pcRX7_g rfl (by decide +kernel)
set_option maxRecDepth 20000 in
theorem oX7_leastWithOneLimb : pm_okM pm_P iX7_leastWithOneLimb := rows_F (kd := 1) (plainFor_of_name pnRX7) rfl (abX7_leastWithOneLimb w0) poRX7_g pcRX7_g rfl (by decide +kernel)
set_option maxRecDepth 20000 in
theorem oX7_limbsTo : pm_okM pm_P iX7_limbsTo := rows_F (kd := 1) (plainFor_of_name pnRX7) rfl (abX7_limbsTo w0) poRX7_g pcRX7_g rfl (by decide +kernel)
set_option maxRecDepth 20000 in
theorem oX7_lowestBit : pm_okM pm_P iX7_lowestBit := rows_F (kd := 1) (plainFor_of_name pnRX7) rfl (abX7_lowestBit w0) poRX7_g pcRX7_g rfl (by decide +kernel)
set_option maxRecDepth 20000 in
theorem oX7_regainGrains : pm_okM pm_P iX7_regainGrains := rows_F (kd := 0) (plainFor_of_name pnRX7) rfl (abX7_regainGrains w0) poRX7_g pcRX7_g rfl (by decide +kernel)
set_option maxRecDepth 20000 in
theorem oX7_search : pm_okM pm_P iX7_search := rows_F (kd := 0) (plainFor_of_name pnRX7) rfl (abX7_search w0) poRX7_g pcRX7_g rfl (by decide +kernel)
set_option maxRecDepth 20000 in
theorem oX7_turnedPairs : pm_okM pm_P iX7_turnedPairs := rows_F (kd := 1) (plainFor_of_name pnRX7) rfl (abX7_turnedPairs w0) poRX7_g pcRX7_g rfl (by decide +kernel)
set_option maxRecDepth 20000 in
theorem oX7_walk : pm_okM pm_P iX7_walk := rows_F (kd := 0) (plainFor_of_name pnRX7) rfl (abX7_walk w0) poRX7_g pcRX7_g rfl (by decide +kernel)
set_option maxRecDepth 20000 in
theorem oX7_wishByOrder : pm_okM pm_P iX7_wishByOrder := rows_F (kd := 1) (plainFor_of_name pnRX7) rfl (abX7_wishByOrder w0) poRX7_g pcRX7_g rfl (by decide +kernel)
set_option maxRecDepth 20000 in
theorem oX8_above : pm_okM pm_P iX8_above := rows_F (kd := 1) (plainFor_of_name pnRX8) rfl (abX8_above w0) poRX8_g pcRX8_g rfl (by decide +kernel)
set_option maxRecDepth 20000 in
theorem oX8_across : pm_okM pm_P iX8_across := rows_F (kd := 1) (plainFor_of_name pnRX8) rfl (abX8_across w0) poRX8_g pcRX8_g rfl (by decide +kernel)
set_option maxRecDepth 20000 in
theorem oX8_actAndCountLost : pm_okM pm_P iX8_actAndCountLost := rows_F (kd := 1) (plainFor_of_name pnRX8) rfl (abX8_actAndCountLost w0) poRX8_g pcRX8_g rfl (by decide +kernel)
end
section
/-! the rows are sound (written by tab2.py) -/
set_option maxRecDepth 20000 in
theorem oX8_anew : pm_okM pm_P iX8_anew := rows_F (kd := 1) (plainFor_of_name pnRX8) rfl (abX8_anew w0) poRX8_g pcRX8_g rfl (by decide +kernel)
set_option maxRecDepth 20000 in
theorem oX8_ask : pm_okM pm_P iX8_ask := rows_F (kd := 1) (plainFor_of_name pnRX8) rfl (abX8_ask w0) poRX8_g pcRX8_g rfl (by decide +kernel)
set_option maxRecDepth 20000 in
theorem oX8_astride : pm_okM pm_P iX8_astride := rows_F (kd := 1) (plainFor_of_name pnRX8) rfl (abX8_astride w0) poRX8_g pcRX8_g rfl (by decide +kernel)
set_option maxRecDepth 20000 in
theorem oX8_back : pm_okM pm_P iX8_back := rows_F (kd := 1) (plainFor_of_name pnRX8) rfl (abX8_back w0) poRX8_g pcRX8_g rfl (by decide +kernel)
set_option maxRecDepth 20000 in
theorem oX8_blame : pm_okM pm_P iX8_blame := rows_F (kd := 1) (plainFor_of_name pnRX8) rfl (abX8_blame w0) poRX8_g pcRX8_g rfl (by decide +kernel)
set_option maxRecDepth 20000 in
theorem oX8_block : pm_okM pm_P iX8_block := rows_F (kd := 1) (plainFor_of_name pnRX8) rfl (abX8_block w0) poRX8_g pcRX8_g rfl (by decide +kernel)
set_option maxRecDepth 20000 in
theorem oX8_blocks : pm_okM pm_P iX8_blocks := rows_F (kd := 1) (plainFor_of_name pnRX8) rfl (abX8_blocks w0) poRX8_g pcRX8_g rfl (by decide +kernel)
set_option maxRecDepth 20000 in
theorem oX8_breaks : pm_okM pm_P iX8_breaks := rows_F (kd := 1) (plainFor_of_name pnRX8) rfl (abX8_breaks w0) poRX8_g pcRX8_g rfl (by decide +kernel)
set_option maxRecDepth 20000 in
theorem oX8_burnt : pm_okM pm_P iX8_burnt := rows_F (kd := 1) (plainFor_of_name pnRX8) rfl (abX8_burnt w0) poRX8_g pcRX8_g rfl (by decide +kernel)
set_option maxRecDepth 20000 in
theorem oX8_by : pm_okM pm_P iX8_by := rows_F (kd := 1) (plainFor_of_name pnRX8) rfl (abX8_by w0) poRX8_g pcRX8_g rfl (by decide +kernel)
set_option maxRecDepth 20000 in
theorem oX8_car : pm_okM pm_P iX8_car := rows_F (kd := 1) (plainFor_of_name pnRX8) rfl (abX8_car w0) poRX8_g pcRX8_g rfl (by decide +kernel)
set_option maxRecDepth 20000 in
theorem oX8_chain : pm_okM pm_P iX8_chain := rows_F (kd := 1) (plainFor_of_name pnRX8) rfl (abX8_chain w0) poRX8_g pcRX8_g rfl (by decide +kernel)
set_option maxRecDepth 20000 in
theorem oX8_chance : pm_okM pm_P iX8_chance := rows_F (kd := 1) (plainFor_of_name pnRX8) rfl (abX8_chance w0) poRX8_g pcRX8_g rfl (by decide +kernel)
set_option maxRecDepth 20000 in
theorem oX8_code : pm_okM pm_P iX8_code := rows_F (kd := 1) (plainFor_of_name pnRX8) rfl (abX8_code w0) poRX8_g pcRX8_g rfl (by decide +kernel)
theorem oX8_count_0 : pm_okF cX8_count RX8 2 false 0 (s_il 1 1) := k_iload_n (dk_iload_n_1 (by decide +kernel : bk1 cX8_count 0 27 = true)) rfl
theorem oX8_count_1 : pm_okF cX8_count RX8 2 false 1 (s_tsw 0 8 [52, 60, 68, 76, 84, 92, 100, 108, 116] 121) := k_tsw (by decide +kernel : decode cX8_count 1 = .ok (.tableswitch 120 0 8 #[51, 59, 67, 75, 83, 91, 99, 107, 115], 51)) (by decide) (by decide +kernel)
theorem oX8_count_52 : pm_okF cX8_count RX8 2 false 52 (s_al 0 53) := k_aload_n (dk_aload_n_0 (by decide +kernel : bk1 cX8_count 52 42 = true)) rfl
theorem oX8_count_53 : pm_okF cX8_count RX8 2 false 53 (s_getf 8 2 56) := k_getf (C := RX8) (T := TX8) (N := 12) rfl inX8 (by decide) (wk2 wb_2_26) (dk_getfield (by decide +kernel : bk3 cX8_count 53 180 28 = true))
theorem oX8_count_56 : pm_okF cX8_count RX8 2 false 56 (s_getf 5 0 59) := k_getf (C := RX5) (T := TX5) (N := 15) rfl inX5 (by decide) (wk15 wb_1_42) (dk_getfield (by decide +kernel : bk3 cX8_count 56 180 139 = true))
theorem oX8_count_59 : pm_okR cX8_count (some .int) 59 1 := ⟨rfl, (dk_ireturn (by decide +kernel : bk1 cX8_count 59 172 = true))⟩
theorem oX8_count_60 : pm_okF cX8_count RX8 2 false 60 (s_al 0 61) := k_aload_n (dk_aload_n_0 (by decide +kernel : bk1 cX8_count 60 42 = true)) rfl
theorem oX8_count_61 : pm_okF cX8_count RX8 2 false 61 (s_getf 8 2 64) := k_getf (C := RX8) (T := TX8) (N := 12) rfl inX8 (by decide) (wk2 wb_2_26) (dk_getfield (by decide +kernel : bk3 cX8_count 61 180 28 = true))
theorem oX8_count_64 : pm_okF cX8_count RX8 2 false 64 (s_getf 5 1 67) := k_getf (C := RX5) (T := TX5) (N := 15) rfl inX5 (by decide) (wk2 wb_1_58) (dk_getfield (by decide +kernel : bk3 cX8_count 64 180 308 = true))
theorem oX8_count_67 : pm_okR cX8_count (some .int) 67 1 := ⟨rfl, (dk_ireturn (by decide +kernel : bk1 cX8_count 67 172 = true))⟩
theorem oX8_count_68 : pm_okF cX8_count RX8 2 false 68 (s_al 0 69) := k_aload_n (dk_aload_n_0 (by decide +kernel : bk1 cX8_count 68 42 = true)) rfl
theorem oX8_count_69 : pm_okF cX8_count RX8 2 false 69 (s_getf 8 2 72) := k_getf (C := RX8) (T := TX8) (N := 12) rfl inX8 (by decide) (wk2 wb_2_26) (dk_getfield (by decide +kernel : bk3 cX8_count 69 180 28 = true))
theorem oX8_count_72 : pm_okF cX8_count RX8 2 false 72 (s_getf 5 2 75) := k_getf (C := RX5) (T := TX5) (N := 15) rfl inX5 (by decide) (wk5 wb_1_58) (dk_getfield (by decide +kernel : bk3 cX8_count 72 180 351 = true))
theorem oX8_count_75 : pm_okR cX8_count (some .int) 75 1 := ⟨rfl, (dk_ireturn (by decide +kernel : bk1 cX8_count 75 172 = true))⟩
theorem oX8_count_76 : pm_okF cX8_count RX8 2 false 76 (s_al 0 77) := k_aload_n (dk_aload_n_0 (by decide +kernel : bk1 cX8_count 76 42 = true)) rfl
theorem oX8_count_77 : pm_okF cX8_count RX8 2 false 77 (s_getf 8 2 80) := k_getf (C := RX8) (T := TX8) (N := 12) rfl inX8 (by decide) (wk2 wb_2_26) (dk_getfield (by decide +kernel : bk3 cX8_count 77 180 28 = true))
theorem oX8_count_80 : pm_okF cX8_count RX8 2 false 80 (s_getf 5 4 83) := k_getf (C := RX5) (T := TX5) (N := 15) rfl inX5 (by decide) (wk11 wb_1_58) (dk_getfield (by decide +kernel : bk3 cX8_count 80 180 148 = true))
theorem oX8_count_83 : pm_okR cX8_count (some .int) 83 1 := ⟨rfl, (dk_ireturn (by decide +kernel : bk1 cX8_count 83 172 = true))⟩
theorem oX8_count_84 : pm_okF cX8_count RX8 2 false 84 (s_al 0 85) := k_aload_n (dk_aload_n_0 (by decide +kernel : bk1 cX8_count 84 42 = true)) rfl
theorem oX8_count_85 : pm_okF cX8_count RX8 2 false 85 (s_getf 8 2 88) := k_getf (C := RX8) (T := TX8) (N := 12) rfl inX8 (by decide) (wk2 wb_2_26) (dk_getfield (by decide +kernel : bk3 cX8_count 85 180 28 = true))
theorem oX8_count_88 : pm_okF cX8_count RX8 2 false 88 (s_getf 5 5 91) := k_getf (C := RX5) (T := TX5) (N := 15) rfl inX5 (by decide) (wk13 wb_1_58) (dk_getfield (by decide +kernel : bk3 cX8_count 88 180 244 = true))
theorem oX8_count_91 : pm_okR cX8_count (some .int) 91 1 := ⟨rfl, (dk_ireturn (by decide +kernel : bk1 cX8_count 91 172 = true))⟩
theorem oX8_count_92 : pm_okF cX8_count RX8 2 false 92 (s_al 0 93) := k_aload_n (dk_aload_n_0 (by decide +kernel : bk1 cX8_count 92 42 = true)) rfl
theorem oX8_count_93 : pm_okF cX8_count RX8 2 false 93 (s_getf 8 2 96) := k_getf (C := RX8) (T := TX8) (N := 12) rfl inX8 (by decide) (wk2 wb_2_26) (dk_getfield (by decide +kernel : bk3 cX8_count 93 180 28 = true))
theorem oX8_count_96 : pm_okF cX8_count RX8 2 false 96 (s_getf 5 6 99) := k_getf (C := RX5) (T := TX5) (N := 15) rfl inX5 (by decide) (wk15 wb_1_58) (dk_getfield (by decide +kernel : bk3 cX8_count 96 180 363 = true))
theorem oX8_count_99 : pm_okR cX8_count (some .int) 99 1 := ⟨rfl, (dk_ireturn (by decide +kernel : bk1 cX8_count 99 172 = true))⟩
theorem oX8_count_100 : pm_okF cX8_count RX8 2 false 100 (s_al 0 101) := k_aload_n (dk_aload_n_0 (by decide +kernel : bk1 cX8_count 100 42 = true)) rfl
theorem oX8_count_101 : pm_okF cX8_count RX8 2 false 101 (s_getf 8 2 104) := k_getf (C := RX8) (T := TX8) (N := 12) rfl inX8 (by decide) (wk2 wb_2_26) (dk_getfield (by decide +kernel : bk3 cX8_count 101 180 28 = true))
theorem oX8_count_104 : pm_okF cX8_count RX8 2 false 104 (s_getf 5 3 107) := k_getf (C := RX5) (T := TX5) (N := 15) rfl inX5 (by decide) (wk8 wb_1_58) (dk_getfield (by decide +kernel : bk3 cX8_count 104 180 103 = true))
theorem oX8_count_107 : pm_okR cX8_count (some .int) 107 1 := ⟨rfl, (dk_ireturn (by decide +kernel : bk1 cX8_count 107 172 = true))⟩
theorem oX8_count_108 : pm_okF cX8_count RX8 2 false 108 (s_al 0 109) := k_aload_n (dk_aload_n_0 (by decide +kernel : bk1 cX8_count 108 42 = true)) rfl
theorem oX8_count_109 : pm_okF cX8_count RX8 2 false 109 (s_getf 8 0 112) := k_getf (C := RX8) (T := TX8) (N := 12) rfl inX8 (by decide) (wk0 wb_2_26) (dk_getfield (by decide +kernel : bk3 cX8_count 109 180 10 = true))
theorem oX8_count_112 : pm_okF cX8_count RX8 2 false 112 (s_getf 6 1 115) := k_getf (C := RX6) (T := TX6) (N := 2) rfl inX6 (by decide) (wk3 wb_1_31) (dk_getfield (by decide +kernel : bk3 cX8_count 112 180 82 = true))
theorem oX8_count_115 : pm_okR cX8_count (some .int) 115 1 := ⟨rfl, (dk_ireturn (by decide +kernel : bk1 cX8_count 115 172 = true))⟩
theorem oX8_count_116 : pm_okF cX8_count RX8 2 false 116 (s_al 0 117) := k_aload_n (dk_aload_n_0 (by decide +kernel : bk1 cX8_count 116 42 = true)) rfl
theorem oX8_count_117 : ∃ I : pm_M, pm_at pm_P 181 = some I ∧ I.2.2.2.2.2.1 = 0 ∧ I.2.2.2.2.2.2.1 = 0 ∧ pm_okC cX8_count RX8 2 false 117 I.1 I.2.1 I.2.2.1 I.2.2.2.1 1 (some 8) 0 0 := ⟨iX8_slotsWithRows, aiX8_slotsWithRows, rfl, rfl, k_callV (n := 0) (T := TX8) (N := 12) (dk_invokevirtual (by decide +kernel : bk3 cX8_count 117 182 375 = true)) rfl (wk1 wb_5_124) (wk3 wb_5_119) (wk0 wb_5_124) (wk10 wb_0_48) (wk0 wb_1_1) (by decide +kernel) (by decide) (by decide)⟩
theorem oX8_count_120 : pm_okR cX8_count (some .int) 120 1 := ⟨rfl, (dk_ireturn (by decide +kernel : bk1 cX8_count 120 172 = true))⟩
theorem oX8_count_121 : pm_okF cX8_count RX8 2 false 121 (s_const (.int (-1)) 122) := k_iconst (dk_iconst_m (by decide +kernel : bk1 cX8_count 121 2 = true)) (by decide)
theorem oX8_count_122 : pm_okR cX8_count (some .int) 122 1 := ⟨rfl, (dk_ireturn (by decide +kernel : bk1 cX8_count 122 172 = true))⟩
set_option maxRecDepth 20000 in
theorem oX8_count : pm_okM pm_P iX8_count := ⟨(by decide +kernel), (fun h => by cases h), List.forall_mem_cons.mpr ⟨oX8_count_0, List.forall_mem_cons.mpr ⟨oX8_count_1, List.forall_mem_cons.mpr ⟨oX8_count_52, List.forall_mem_cons.mpr ⟨oX8_count_53, List.forall_mem_cons.mpr ⟨oX8_count_56, List.forall_mem_cons.mpr ⟨oX8_count_59, List.forall_mem_cons.mpr ⟨oX8_count_60, List.forall_mem_cons.mpr ⟨oX8_count_61, List.forall_mem_cons.mpr ⟨oX8_count_64, List.forall_mem_cons.mpr ⟨oX8_count_67, List.forall_mem_cons.mpr ⟨oX8_count_68, List.forall_mem_cons.mpr ⟨oX8_count_69, List.forall_mem_cons.mpr ⟨oX8_count_72, List.forall_mem_cons.mpr ⟨oX8_count_75, List.forall_mem_cons.mpr ⟨oX8_count_76, List.forall_mem_cons.mpr ⟨oX8_count_77, List.forall_mem_cons.mpr ⟨oX8_count_80, List.forall_mem_cons.mpr ⟨oX8_count_83, List.forall_mem_cons.mpr ⟨oX8_count_84, List.forall_mem_cons.mpr ⟨oX8_count_85, List.forall_mem_cons.mpr ⟨oX8_count_88, List.forall_mem_cons.mpr ⟨oX8_count_91, List.forall_mem_cons.mpr ⟨oX8_count_92, List.forall_mem_cons.mpr ⟨oX8_count_93, List.forall_mem_cons.mpr ⟨oX8_count_96, List.forall_mem_cons.mpr ⟨oX8_count_99, List.forall_mem_cons.mpr ⟨oX8_count_100, List.forall_mem_cons.mpr ⟨oX8_count_101, List.forall_mem_cons.mpr ⟨oX8_count_104, List.forall_mem_cons.mpr ⟨oX8_count_107, List.forall_mem_cons.mpr ⟨oX8_count_108, List.forall_mem_cons.mpr ⟨oX8_count_109, List.forall_mem_cons.mpr ⟨oX8_count_112, List.forall_mem_cons.mpr ⟨oX8_count_115, List.forall_mem_cons.mpr ⟨oX8_count_116, List.forall_mem_cons.mpr ⟨oX8_count_117, List.forall_mem_cons.mpr ⟨oX8_count_120, List.forall_mem_cons.mpr ⟨oX8_count_121, List.forall_mem_cons.mpr ⟨oX8_count_122, fun _ h => absurd h List.not_mem_nil⟩⟩⟩⟩⟩⟩⟩⟩⟩⟩⟩⟩⟩⟩⟩⟩⟩⟩⟩⟩⟩⟩⟩⟩⟩⟩⟩⟩⟩⟩⟩⟩⟩⟩⟩⟩⟩⟩⟩⟩
set_option maxRecDepth 20000 in
theorem oX8_crossed : pm_okM pm_P iX8_crossed := rows_F (kd := 1) (plainFor_of_name pnRX8) rfl (abX8_crossed w0) poRX8_g pcRX8_g rfl (by decide +kernel)
set_option maxRecDepth 20000 in
theorem oX8_crossesFirst : pm_okM pm_P iX8_crossesFirst := rows_F (kd := 2) (plainFor_of_name pnRX8) rfl (abX8_crossesFirst w0) poRX8_g pcRX8_g rfl (by decide +kernel)
set_option maxRecDepth 20000 in
theorem oX8_crossesSecond : pm_okM pm_P iX8_crossesSecond := rows_F (kd := 2) (plainFor_of_name pnRX8) rfl (abX8_crossesSecond w0) poRX8_g pcRX8_g rfl (by decide +kernel)
theorem oX8_cut_0 : pm_okF cX8_cut RX8 3 false 0 (s_il 2 1) := k_iload_n (dk_iload_n_2 (by decide +kernel : bk1 cX8_cut 0 28 = true)) rfl
theorem oX8_cut_1 : pm_okF cX8_cut RX8 3 false 1 (s_tsw 0 2 [28, 33, 38] 42) := k_tsw (by decide +kernel : decode cX8_cut 1 = .ok (.tableswitch 41 0 2 #[27, 32, 37], 27)) (by decide) (by decide +kernel)
theorem oX8_cut_28 : pm_okF cX8_cut RX8 3 false 28 (s_ll 0 29) := k_lload_n (dk_lload_n_0 (by decide +kernel : bk1 cX8_cut 28 30 = true)) rfl
theorem oX8_cut_29 : pm_okF cX8_cut RX8 3 false 29 (s_l2i 30) := k_l2i (dk_l2i (by decide +kernel : bk1 cX8_cut 29 136 = true))
theorem oX8_cut_30 : pm_okF cX8_cut RX8 3 false 30 (s_un (fun x => x.toInt8.toInt32) 31) := k_i2b (dk_i2b (by decide +kernel : bk1 cX8_cut 30 145 = true))
theorem oX8_cut_31 : pm_okF cX8_cut RX8 3 false 31 (s_i2l 32) := k_i2l (dk_i2l (by decide +kernel : bk1 cX8_cut 31 133 = true))
theorem oX8_cut_32 : pm_okR cX8_cut (some .long) 32 3 := ⟨rfl, (dk_lreturn (by decide +kernel : bk1 cX8_cut 32 173 = true))⟩
theorem oX8_cut_33 : pm_okF cX8_cut RX8 3 false 33 (s_ll 0 34) := k_lload_n (dk_lload_n_0 (by decide +kernel : bk1 cX8_cut 33 30 = true)) rfl
theorem oX8_cut_34 : pm_okF cX8_cut RX8 3 false 34 (s_l2i 35) := k_l2i (dk_l2i (by decide +kernel : bk1 cX8_cut 34 136 = true))
theorem oX8_cut_35 : pm_okF cX8_cut RX8 3 false 35 (s_un (fun x => x.toInt16.toInt32) 36) := k_i2s (dk_i2s (by decide +kernel : bk1 cX8_cut 35 147 = true))
theorem oX8_cut_36 : pm_okF cX8_cut RX8 3 false 36 (s_i2l 37) := k_i2l (dk_i2l (by decide +kernel : bk1 cX8_cut 36 133 = true))
theorem oX8_cut_37 : pm_okR cX8_cut (some .long) 37 3 := ⟨rfl, (dk_lreturn (by decide +kernel : bk1 cX8_cut 37 173 = true))⟩
theorem oX8_cut_38 : pm_okF cX8_cut RX8 3 false 38 (s_ll 0 39) := k_lload_n (dk_lload_n_0 (by decide +kernel : bk1 cX8_cut 38 30 = true)) rfl
theorem oX8_cut_39 : pm_okF cX8_cut RX8 3 false 39 (s_l2i 40) := k_l2i (dk_l2i (by decide +kernel : bk1 cX8_cut 39 136 = true))
theorem oX8_cut_40 : pm_okF cX8_cut RX8 3 false 40 (s_i2l 41) := k_i2l (dk_i2l (by decide +kernel : bk1 cX8_cut 40 133 = true))
theorem oX8_cut_41 : pm_okR cX8_cut (some .long) 41 3 := ⟨rfl, (dk_lreturn (by decide +kernel : bk1 cX8_cut 41 173 = true))⟩
theorem oX8_cut_42 : pm_okF cX8_cut RX8 3 false 42 (s_ll 0 43) := k_lload_n (dk_lload_n_0 (by decide +kernel : bk1 cX8_cut 42 30 = true)) rfl
theorem oX8_cut_43 : pm_okR cX8_cut (some .long) 43 3 := ⟨rfl, (dk_lreturn (by decide +kernel : bk1 cX8_cut 43 173 = true))⟩
set_option maxRecDepth 20000 in
theorem oX8_cut : pm_okM pm_P iX8_cut := ⟨(by decide +kernel), (fun h => by cases h), List.forall_mem_cons.mpr ⟨oX8_cut_0, List.forall_mem_cons.mpr ⟨oX8_cut_1, List.forall_mem_cons.mpr ⟨oX8_cut_28, List.forall_mem_cons.mpr ⟨oX8_cut_29, List.forall_mem_cons.mpr ⟨oX8_cut_30, List.forall_mem_cons.mpr ⟨oX8_cut_31, List.forall_mem_cons.mpr ⟨oX8_cut_32, List.forall_mem_cons.mpr ⟨oX8_cut_33, List.forall_mem_cons.mpr ⟨oX8_cut_34, List.forall_mem_cons.mpr ⟨oX8_cut_35, List.forall_mem_cons.mpr ⟨oX8_cut_36, List.forall_mem_cons.mpr ⟨oX8_cut_37, List.forall_mem_cons.mpr ⟨oX8_cut_38, List.forall_mem_cons.mpr ⟨oX8_cut_39, List.forall_mem_cons.mpr ⟨oX8_cut_40, List.forall_mem_cons.mpr ⟨oX8_cut_41, List.forall_mem_cons.mpr ⟨oX8_cut_42, List.forall_mem_cons.mpr ⟨oX8_cut_43, fun _ h => absurd h List.not_mem_nil⟩⟩⟩⟩⟩⟩⟩⟩⟩⟩⟩⟩⟩⟩⟩⟩⟩⟩⟩
set_option maxRecDepth 20000 in
theorem oX8_depth : pm_okM pm_P iX8_depth := rows_F (kd := 1) (plainFor_of_name pnRX8) rfl (abX8_depth w0) poRX8_g pcRX8_g rfl (by decide +kernel)
set_option maxRecDepth 20000 in
theorem oX8_drawSet : pm_okM pm_P iX8_drawSet := rows_F (kd := 1) (plainFor_of_name pnRX8) rfl (abX8_drawSet w0) poRX8_g pcRX8_g rfl (by decide +kernel)
set_option maxRecDepth 20000 in
theorem oX8_drawn : pm_okM pm_P iX8_drawn := rows_F (kd := 1) (plainFor_of_name pnRX8) rfl (abX8_drawn w0) poRX8_g pcRX8_g rfl (by decide +kernel)
set_option maxRecDepth 20000 in
theorem oX8_end : pm_okM pm_P iX8_end := rows_F (kd := 1) (plainFor_of_name pnRX8) rfl (abX8_end w0) poRX8_g pcRX8_g rfl (by decide +kernel)
end
section
/-! the rows are sound (written by tab2.py) -/
theorem oX8_ends_0 : pm_okF cX8_ends RX8 4 false 0 (s_al 0 1) := k_aload_n (dk_aload_n_0 (by decide +kernel : bk1 cX8_ends 0 42 = true)) rfl
theorem oX8_ends_1 : pm_okF cX8_ends RX8 4 false 1 (s_il 1 2) := k_iload_n (dk_iload_n_1 (by decide +kernel : bk1 cX8_ends 1 27 = true)) rfl
theorem oX8_ends_2 : ∃ I : pm_M, pm_at pm_P 128 = some I ∧ I.2.2.2.2.2.1 = 0 ∧ I.2.2.2.2.2.2.1 = 0 ∧ pm_okC cX8_ends RX8 4 false 2 I.1 I.2.1 I.2.2.1 I.2.2.2.1 2 (some 8) 0 0 := ⟨iX8_isTallied, aiX8_isTallied, rfl, rfl, k_callV (n := 1) (T := TX8) (N := 12) (dk_invokevirtual (by decide +kernel : bk3 cX8_ends 2 182 232 = true)) rfl (wk1 wb_4_65) (wk10 wb_4_53) (wk0 wb_4_65) (wk5 wb_0_32) (wk0 wb_1_1) (by decide +kernel) (by decide) (by decide)⟩
theorem oX8_ends_5 : pm_okF cX8_ends RX8 4 false 5 (s_if (fun x => decide (x = 0)) 18 8) := k_if_eq (dk_ifCond_eq (by decide +kernel : bkS cX8_ends 5 153 13 = true)) (by decide)
theorem oX8_ends_8 : pm_okF cX8_ends RX8 4 false 8 (s_il 2 9) := k_iload_n (dk_iload_n_2 (by decide +kernel : bk1 cX8_ends 8 28 = true)) rfl
theorem oX8_ends_9 : pm_okF cX8_ends RX8 4 false 9 (s_const (.int 1) 10) := k_iconst (dk_iconst_1 (by decide +kernel : bk1 cX8_ends 9 4 = true)) (by decide)
theorem oX8_ends_10 : pm_okF cX8_ends RX8 4 false 10 (s_icmp (fun x y => decide (x < y)) 18 13) := k_icmp_lt (dk_if_icmp_lt (by decide +kernel : bkS cX8_ends 10 161 8 = true)) (by decide)
theorem oX8_ends_13 : pm_okF cX8_ends RX8 4 false 13 (s_il 2 14) := k_iload_n (dk_iload_n_2 (by decide +kernel : bk1 cX8_ends 13 28 = true)) rfl
theorem oX8_ends_14 : pm_okF cX8_ends RX8 4 false 14 (s_il 1 15) := k_iload_n (dk_iload_n_1 (by decide +kernel : bk1 cX8_ends 14 27 = true)) rfl
theorem oX8_ends_15 : pm_okF cX8_ends RX8 4 false 15 (s_icmp (fun x y => decide (x ≤ y)) 21 18) := k_icmp_le (dk_if_icmp_le (by decide +kernel : bkS cX8_ends 15 164 6 = true)) (by decide)
theorem oX8_ends_18 : pm_okF cX8_ends RX8 4 false 18 (s_const (.int (-2)) 20) := k_bipush (dk_bipush (by decide +kernel : bkB cX8_ends 18 16 (-2) = true)) (by decide)
theorem oX8_ends_20 : pm_okR cX8_ends (some .int) 20 1 := ⟨rfl, (dk_ireturn (by decide +kernel : bk1 cX8_ends 20 172 = true))⟩
theorem oX8_ends_21 : pm_okF cX8_ends RX8 4 false 21 (s_const (.retAddr 1) 24) := k_gets_fac (wk8 wb_4_80) (dk_getstatic (by decide +kernel : bk3 cX8_ends 21 178 241 = true))
theorem oX8_ends_24 : pm_okF cX8_ends RX8 4 false 24 (s_il 1 25) := k_iload_n (dk_iload_n_1 (by decide +kernel : bk1 cX8_ends 24 27 = true)) rfl
theorem oX8_ends_25 : pm_okF cX8_ends RX8 4 false 25 (s_const (.int 1) 26) := k_iconst (dk_iconst_1 (by decide +kernel : bk1 cX8_ends 25 4 = true)) (by decide)
theorem oX8_ends_26 : pm_okF cX8_ends RX8 4 false 26 (s_bin (fun x y => x - y) 27) := k_isub (dk_isub (by decide +kernel : bk1 cX8_ends 26 100 = true))
theorem oX8_ends_27 : pm_okF cX8_ends RX8 4 false 27 (s_tald 28) := k_tald (dk_iaload (by decide +kernel : bk1 cX8_ends 27 46 = true))
theorem oX8_ends_28 : pm_okF cX8_ends RX8 4 false 28 (s_const (.retAddr 1) 31) := k_gets_fac (wk8 wb_4_80) (dk_getstatic (by decide +kernel : bk3 cX8_ends 28 178 241 = true))
theorem oX8_ends_31 : pm_okF cX8_ends RX8 4 false 31 (s_il 2 32) := k_iload_n (dk_iload_n_2 (by decide +kernel : bk1 cX8_ends 31 28 = true)) rfl
theorem oX8_ends_32 : pm_okF cX8_ends RX8 4 false 32 (s_const (.int 1) 33) := k_iconst (dk_iconst_1 (by decide +kernel : bk1 cX8_ends 32 4 = true)) (by decide)
theorem oX8_ends_33 : pm_okF cX8_ends RX8 4 false 33 (s_bin (fun x y => x - y) 34) := k_isub (dk_isub (by decide +kernel : bk1 cX8_ends 33 100 = true))
theorem oX8_ends_34 : pm_okF cX8_ends RX8 4 false 34 (s_tald 35) := k_tald (dk_iaload (by decide +kernel : bk1 cX8_ends 34 46 = true))
theorem oX8_ends_35 : pm_okF cX8_ends RX8 4 false 35 (s_const (.retAddr 1) 38) := k_gets_fac (wk8 wb_4_80) (dk_getstatic (by decide +kernel : bk3 cX8_ends 35 178 241 = true))
theorem oX8_ends_38 : pm_okF cX8_ends RX8 4 false 38 (s_il 1 39) := k_iload_n (dk_iload_n_1 (by decide +kernel : bk1 cX8_ends 38 27 = true)) rfl
theorem oX8_ends_39 : pm_okF cX8_ends RX8 4 false 39 (s_il 2 40) := k_iload_n (dk_iload_n_2 (by decide +kernel : bk1 cX8_ends 39 28 = true)) rfl
theorem oX8_ends_40 : pm_okF cX8_ends RX8 4 false 40 (s_bin (fun x y => x - y) 41) := k_isub (dk_isub (by decide +kernel : bk1 cX8_ends 40 100 = true))
theorem oX8_ends_41 : pm_okF cX8_ends RX8 4 false 41 (s_tald 42) := k_tald (dk_iaload (by decide +kernel : bk1 cX8_ends 41 46 = true))
theorem oX8_ends_42 : pm_okF cX8_ends RX8 4 false 42 (s_bin (fun x y => x * y) 43) := k_imul (dk_imul (by decide +kernel : bk1 cX8_ends 42 104 = true))
theorem oX8_ends_43 : pm_okF cX8_ends RX8 4 false 43 (s_div (fun x y => x / y) 44) := k_idiv (dk_idiv (by decide +kernel : bk1 cX8_ends 43 108 = true))
theorem oX8_ends_44 : pm_okF cX8_ends RX8 4 false 44 (s_is 3 45) := k_istore_n (dk_istore_n_3 (by decide +kernel : bk1 cX8_ends 44 62 = true)) rfl (by decide)
theorem oX8_ends_45 : pm_okF cX8_ends RX8 4 false 45 (s_il 3 46) := k_iload_n (dk_iload_n_3 (by decide +kernel : bk1 cX8_ends 45 29 = true)) rfl
theorem oX8_ends_46 : pm_okF cX8_ends RX8 4 false 46 (s_il 2 47) := k_iload_n (dk_iload_n_2 (by decide +kernel : bk1 cX8_ends 46 28 = true)) rfl
theorem oX8_ends_47 : pm_okF cX8_ends RX8 4 false 47 (s_const (.int 1) 48) := k_iconst (dk_iconst_1 (by decide +kernel : bk1 cX8_ends 47 4 = true)) (by decide)
theorem oX8_ends_48 : pm_okF cX8_ends RX8 4 false 48 (s_bin (fun x y => x - y) 49) := k_isub (dk_isub (by decide +kernel : bk1 cX8_ends 48 100 = true))
theorem oX8_ends_49 : ∃ I : pm_M, pm_at pm_P 137 = some I ∧ I.2.2.2.2.2.1 = 0 ∧ I.2.2.2.2.2.2.1 = 0 ∧ pm_okC cX8_ends RX8 4 false 49 I.1 I.2.1 I.2.2.1 I.2.2.2.1 1 (none) 0 0 := ⟨iX8_lawfulRows, aiX8_lawfulRows, rfl, rfl, k_callS (n := 1) (dk_invokestatic (by decide +kernel : bk3 cX8_ends 49 184 235 = true)) (wk4 wb_4_65) (wk2 wb_4_65) (wk3 wb_4_65) (wk0 wb_1_1) (by decide +kernel) (by decide)⟩
theorem oX8_ends_52 : pm_okF cX8_ends RX8 4 false 52 (s_bin (fun x y => x * y) 53) := k_imul (dk_imul (by decide +kernel : bk1 cX8_ends 52 104 = true))
theorem oX8_ends_53 : pm_okF cX8_ends RX8 4 false 53 (s_il 1 54) := k_iload_n (dk_iload_n_1 (by decide +kernel : bk1 cX8_ends 53 27 = true)) rfl
theorem oX8_ends_54 : pm_okF cX8_ends RX8 4 false 54 (s_il 2 55) := k_iload_n (dk_iload_n_2 (by decide +kernel : bk1 cX8_ends 54 28 = true)) rfl
theorem oX8_ends_55 : pm_okF cX8_ends RX8 4 false 55 (s_bin (fun x y => x - y) 56) := k_isub (dk_isub (by decide +kernel : bk1 cX8_ends 55 100 = true))
theorem oX8_ends_56 : ∃ I : pm_M, pm_at pm_P 137 = some I ∧ I.2.2.2.2.2.1 = 0 ∧ I.2.2.2.2.2.2.1 = 0 ∧ pm_okC cX8_ends RX8 4 false 56 I.1 I.2.1 I.2.2.1 I.2.2.2.1 1 (none) 0 0 := ⟨iX8_lawfulRows, aiX8_lawfulRows, rfl, rfl, k_callS (n := 1) (dk_invokestatic (by decide +kernel : bk3 cX8_ends 56 184 235 = true)) (wk4 wb_4_65) (wk2 wb_4_65) (wk3 wb_4_65) (wk0 wb_1_1) (by decide +kernel) (by decide)⟩
theorem oX8_ends_59 : pm_okF cX8_ends RX8 4 false 59 (s_bin (fun x y => x * y) 60) := k_imul (dk_imul (by decide +kernel : bk1 cX8_ends 59 104 = true))
theorem oX8_ends_60 : pm_okF cX8_ends RX8 4 false 60 (s_il 2 61) := k_iload_n (dk_iload_n_2 (by decide +kernel : bk1 cX8_ends 60 28 = true)) rfl
theorem oX8_ends_61 : pm_okF cX8_ends RX8 4 false 61 (s_bin (fun x y => x * y) 62) := k_imul (dk_imul (by decide +kernel : bk1 cX8_ends 61 104 = true))
theorem oX8_ends_62 : pm_okR cX8_ends (some .int) 62 1 := ⟨rfl, (dk_ireturn (by decide +kernel : bk1 cX8_ends 62 172 = true))⟩
set_option maxRecDepth 20000 in
theorem oX8_ends : pm_okM pm_P iX8_ends := ⟨(by decide +kernel), (fun h => by cases h), List.forall_mem_cons.mpr ⟨oX8_ends_0, List.forall_mem_cons.mpr ⟨oX8_ends_1, List.forall_mem_cons.mpr ⟨oX8_ends_2, List.forall_mem_cons.mpr ⟨oX8_ends_5, List.forall_mem_cons.mpr ⟨oX8_ends_8, List.forall_mem_cons.mpr ⟨oX8_ends_9, List.forall_mem_cons.mpr ⟨oX8_ends_10, List.forall_mem_cons.mpr ⟨oX8_ends_13, List.forall_mem_cons.mpr ⟨oX8_ends_14, List.forall_mem_cons.mpr ⟨oX8_ends_15, List.forall_mem_cons.mpr ⟨oX8_ends_18, List.forall_mem_cons.mpr ⟨oX8_ends_20, List.forall_mem_cons.mpr ⟨oX8_ends_21, List.forall_mem_cons.mpr ⟨oX8_ends_24, List.forall_mem_cons.mpr ⟨oX8_ends_25, List.forall_mem_cons.mpr ⟨oX8_ends_26, List.forall_mem_cons.mpr ⟨oX8_ends_27, List.forall_mem_cons.mpr ⟨oX8_ends_28, List.forall_mem_cons.mpr ⟨oX8_ends_31, List.forall_mem_cons.mpr ⟨oX8_ends_32, List.forall_mem_cons.mpr ⟨oX8_ends_33, List.forall_mem_cons.mpr ⟨oX8_ends_34, List.forall_mem_cons.mpr ⟨oX8_ends_35, List.forall_mem_cons.mpr ⟨oX8_ends_38, List.forall_mem_cons.mpr ⟨oX8_ends_39, List.forall_mem_cons.mpr ⟨oX8_ends_40, List.forall_mem_cons.mpr ⟨oX8_ends_41, List.forall_mem_cons.mpr ⟨oX8_ends_42, List.forall_mem_cons.mpr ⟨oX8_ends_43, List.forall_mem_cons.mpr ⟨oX8_ends_44, List.forall_mem_cons.mpr ⟨oX8_ends_45, List.forall_mem_cons.mpr ⟨oX8_ends_46, List.forall_mem_cons.mpr ⟨oX8_ends_47, List.forall_mem_cons.mpr ⟨oX8_ends_48, List.forall_mem_cons.mpr ⟨oX8_ends_49, List.forall_mem_cons.mpr ⟨oX8_ends_52, List.forall_mem_cons.mpr ⟨oX8_ends_53, List.forall_mem_cons.mpr ⟨oX8_ends_54, List.forall_mem_cons.mpr ⟨oX8_ends_55, List.forall_mem_cons.mpr ⟨oX8_ends_56, List.forall_mem_cons.mpr ⟨oX8_ends_59, List.forall_mem_cons.mpr ⟨oX8_ends_60, List.forall_mem_cons.mpr ⟨oX8_ends_61, List.forall_mem_cons.mpr ⟨oX8_ends_62, fun _ h => absurd h List.not_mem_nil⟩⟩⟩⟩⟩⟩⟩⟩⟩⟩⟩⟩⟩⟩⟩⟩⟩⟩⟩⟩⟩⟩⟩⟩⟩⟩⟩⟩⟩⟩⟩⟩⟩⟩⟩⟩⟩⟩⟩⟩⟩⟩⟩⟩⟩
set_option maxRecDepth 20000 in
theorem oX8_everyCar : pm_okM pm_P iX8_everyCar := rows_F (kd := 1) (plainFor_of_name pnRX8) rfl (abX8_everyCar w0) poRX8_g pcRX8_g rfl (by decide +kernel)
set_option maxRecDepth 20000 in
theorem oX8_far : pm_okM pm_P iX8_far := rows_F (kd := 1) (plainFor_of_name pnRX8) rfl (abX8_far w0) poRX8_g pcRX8_g rfl (by decide +kernel)
set_option maxRecDepth 20000 in
theorem oX8_fault : pm_okM pm_P iX8_fault := rows_F (kd := 1) (plainFor_of_name pnRX8) rfl (abX8_fault w0) poRX8_g pcRX8_g rfl (by decide +kernel)
set_option maxRecDepth 20000 in
theorem oX8_feed : pm_okM pm_P iX8_feed := rows_F (kd := 1) (plainFor_of_name pnRX8) rfl (abX8_feed w0) poRX8_g pcRX8_g rfl (by decide +kernel)
set_option maxRecDepth 20000 in
theorem oX8_fences : pm_okM pm_P iX8_fences := rows_F (kd := 1) (plainFor_of_name pnRX8) rfl (abX8_fences w0) poRX8_g pcRX8_g rfl (by decide +kernel)
set_option maxRecDepth 20000 in
theorem oX8_fits : pm_okM pm_P iX8_fits := rows_F (kd := 1) (plainFor_of_name pnRX8) rfl (abX8_fits w0) poRX8_g pcRX8_g rfl (by decide +kernel)
set_option maxRecDepth 20000 in
theorem oX8_fitting : pm_okM pm_P iX8_fitting := rows_F (kd := 1) (plainFor_of_name pnRX8) rfl (abX8_fitting w0) poRX8_g pcRX8_g rfl (by decide +kernel)
set_option maxRecDepth 20000 in
theorem oX8_free : pm_okM pm_P iX8_free := rows_F (kd := 1) (plainFor_of_name pnRX8) rfl (abX8_free w0) poRX8_g pcRX8_g rfl (by decide +kernel)
set_option maxRecDepth 20000 in
theorem oX8_gain : pm_okM pm_P iX8_gain := rows_F (kd := 1) (plainFor_of_name pnRX8) rfl (abX8_gain w0) poRX8_g pcRX8_g rfl (by decide +kernel)
set_option maxRecDepth 20000 in
theorem oX8_gets : pm_okM pm_P iX8_gets := rows_F (kd := 1) (plainFor_of_name pnRX8) rfl (abX8_gets w0) poRX8_g pcRX8_g rfl (by decide +kernel)
set_option maxRecDepth 20000 in
theorem oX8_hangTree : pm_okM pm_P iX8_hangTree := rows_F (kd := 1) (plainFor_of_name pnRX8) rfl (abX8_hangTree w0) poRX8_g pcRX8_g rfl (by decide +kernel)
set_option maxRecDepth 20000 in
theorem oX8_hasCar : pm_okM pm_P iX8_hasCar := rows_F (kd := 2) (plainFor_of_name pnRX8) rfl (abX8_hasCar w0) poRX8_g pcRX8_g rfl (by decide +kernel)
set_option maxRecDepth 20000 in
theorem oX8_hasNumber : pm_okM pm_P iX8_hasNumber := rows_F (kd := 2) (plainFor_of_name pnRX8) rfl (abX8_hasNumber w0) poRX8_g pcRX8_g rfl (by decide +kernel)
set_option maxRecDepth 20000 in
theorem oX8_hasPair : pm_okM pm_P iX8_hasPair := rows_F (kd := 2) (plainFor_of_name pnRX8) rfl (abX8_hasPair w0) poRX8_g pcRX8_g rfl (by decide +kernel)
set_option maxRecDepth 20000 in
theorem oX8_hasPlace : pm_okM pm_P iX8_hasPlace := rows_F (kd := 2) (plainFor_of_name pnRX8) rfl (abX8_hasPlace w0) poRX8_g pcRX8_g rfl (by decide +kernel)
set_option maxRecDepth 20000 in
theorem oX8_hasStreet : pm_okM pm_P iX8_hasStreet := rows_F (kd := 2) (plainFor_of_name pnRX8) rfl (abX8_hasStreet w0) poRX8_g pcRX8_g rfl (by decide +kernel)
set_option maxRecDepth 20000 in
theorem oX8_holder : pm_okM pm_P iX8_holder := rows_F (kd := 1) (plainFor_of_name pnRX8) rfl (abX8_holder w0) poRX8_g pcRX8_g rfl (by decide +kernel)
set_option maxRecDepth 20000 in
theorem oX8_hole : pm_okM pm_P iX8_hole := rows_F (kd := 1) (plainFor_of_name pnRX8) rfl (abX8_hole w0) poRX8_g pcRX8_g rfl (by decide +kernel)
set_option maxRecDepth 20000 in
theorem oX8_image : pm_okM pm_P iX8_image := rows_F (kd := 1) (plainFor_of_name pnRX8) rfl (abX8_image w0) poRX8_g pcRX8_g rfl (by decide +kernel)
theorem oX8_init_0 : pm_okF cX8_init RX8 2 true 0 (s_al 0 1) := k_aload_n (dk_aload_n_0 (by decide +kernel : bk1 cX8_init 0 42 = true)) rfl
theorem oX8_init_1 : pm_okF cX8_init RX8 2 true 1 (s_obj 4) := k_obj (wk8 wb_1_15) (wk9 wb_1_15) (wk10 wb_1_15) (dk_invokespecial (by decide +kernel : bk3 cX8_init 1 183 1 = true))
theorem oX8_init_4 : pm_okF cX8_init RX8 2 true 4 (s_al 0 5) := k_aload_n (dk_aload_n_0 (by decide +kernel : bk1 cX8_init 4 42 = true)) rfl
theorem oX8_init_5 : pm_okF cX8_init RX8 2 true 5 (s_new 6 dfX6 2 8) := k_new6 (wk11 wb_1_15) (dk_new (by decide +kernel : bk3 cX8_init 5 187 7 = true))
theorem oX8_init_8 : pm_okF cX8_init RX8 2 true 8 (s_dup 9) := k_dup (dk_dup (by decide +kernel : bk1 cX8_init 8 89 = true))
theorem oX8_init_9 : ∃ I : pm_M, pm_at pm_P 56 = some I ∧ I.2.2.2.2.2.1 = 1 ∧ I.2.2.2.2.2.2.1 = 500 ∧ pm_okC cX8_init RX8 2 true 9 I.1 I.2.1 I.2.2.1 I.2.2.2.1 1 (some 6) 1 500 := ⟨iX6_init, aiX6_init, rfl, rfl, k_callI (n := 0) (dk_invokespecial (by decide +kernel : bk3 cX8_init 9 183 9 = true)) (wk15 wb_1_15) (wk13 wb_1_15) (wk14 wb_1_15) (wk1 wb_1_1) rfl (by decide +kernel) (by decide) (by decide)⟩
theorem oX8_init_12 : pm_okF cX8_init RX8 2 true 12 (s_putf 8 0 (.object "ParkingTrees$Tape") 15) := k_putF (C := RX8) (T := TX8) (N := 12) rfl inX8 tyX8_ok nmX8 (by decide) rfl rfl rfl (wk0 wb_2_26) (dk_putfield (by decide +kernel : bk3 cX8_init 12 181 10 = true))
theorem oX8_init_15 : pm_okF cX8_init RX8 2 true 15 (s_al 0 16) := k_aload_n (dk_aload_n_0 (by decide +kernel : bk1 cX8_init 15 42 = true)) rfl
theorem oX8_init_16 : pm_okF cX8_init RX8 2 true 16 (s_new 2 dfX2 10 19) := k_new2 (wk1 wb_1_42) (dk_new (by decide +kernel : bk3 cX8_init 16 187 16 = true))
theorem oX8_init_19 : pm_okF cX8_init RX8 2 true 19 (s_dup 20) := k_dup (dk_dup (by decide +kernel : bk1 cX8_init 19 89 = true))
theorem oX8_init_20 : pm_okF cX8_init RX8 2 true 20 (s_al 0 21) := k_aload_n (dk_aload_n_0 (by decide +kernel : bk1 cX8_init 20 42 = true)) rfl
theorem oX8_init_21 : pm_okF cX8_init RX8 2 true 21 (s_getf 8 0 24) := k_getf (C := RX8) (T := TX8) (N := 12) rfl inX8 (by decide) (wk0 wb_2_26) (dk_getfield (by decide +kernel : bk3 cX8_init 21 180 10 = true))
theorem oX8_init_24 : ∃ I : pm_M, pm_at pm_P 26 = some I ∧ I.2.2.2.2.2.1 = 11 ∧ I.2.2.2.2.2.2.1 = 127 ∧ pm_okC cX8_init RX8 2 true 24 I.1 I.2.1 I.2.2.1 I.2.2.2.1 2 (some 2) 11 127 := ⟨iX2_init, aiX2_init, rfl, rfl, k_callI (n := 1) (dk_invokespecial (by decide +kernel : bk3 cX8_init 24 183 18 = true)) (wk5 wb_1_42) (wk3 wb_1_42) (wk4 wb_1_42) (wk2 wb_1_1) rfl (by decide +kernel) (by decide) (by decide)⟩
theorem oX8_init_27 : pm_okF cX8_init RX8 2 true 27 (s_putf 8 1 (.object "ParkingTrees$Reader") 30) := k_putF (C := RX8) (T := TX8) (N := 12) rfl inX8 tyX8_ok nmX8 (by decide) rfl rfl rfl (wk1 wb_2_26) (dk_putfield (by decide +kernel : bk3 cX8_init 27 181 21 = true))
theorem oX8_init_30 : pm_okF cX8_init RX8 2 true 30 (s_al 0 31) := k_aload_n (dk_aload_n_0 (by decide +kernel : bk1 cX8_init 30 42 = true)) rfl
theorem oX8_init_31 : pm_okF cX8_init RX8 2 true 31 (s_new 5 dfX5 15 34) := k_new5 (wk0 wb_1_167) (dk_new (by decide +kernel : bk3 cX8_init 31 187 25 = true))
theorem oX8_init_34 : pm_okF cX8_init RX8 2 true 34 (s_dup 35) := k_dup (dk_dup (by decide +kernel : bk1 cX8_init 34 89 = true))
theorem oX8_init_35 : ∃ I : pm_M, pm_at pm_P 52 = some I ∧ I.2.2.2.2.2.1 = 8 ∧ I.2.2.2.2.2.2.1 = 100 ∧ pm_okC cX8_init RX8 2 true 35 I.1 I.2.1 I.2.2.1 I.2.2.2.1 1 (some 5) 8 100 := ⟨iX5_init, aiX5_init, rfl, rfl, k_callI (n := 0) (dk_invokespecial (by decide +kernel : bk3 cX8_init 35 183 27 = true)) (wk11 wb_1_42) (wk1 wb_1_167) (wk10 wb_1_42) (wk3 wb_1_1) rfl (by decide +kernel) (by decide) (by decide)⟩
theorem oX8_init_38 : pm_okF cX8_init RX8 2 true 38 (s_putf 8 2 (.object "ParkingTrees$Street") 41) := k_putF (C := RX8) (T := TX8) (N := 12) rfl inX8 tyX8_ok nmX8 (by decide) rfl rfl rfl (wk2 wb_2_26) (dk_putfield (by decide +kernel : bk3 cX8_init 38 181 28 = true))
theorem oX8_init_41 : pm_okF cX8_init RX8 2 true 41 (s_al 0 42) := k_aload_n (dk_aload_n_0 (by decide +kernel : bk1 cX8_init 41 42 = true)) rfl
theorem oX8_init_42 : pm_okF cX8_init RX8 2 true 42 (s_const (.int 3) 43) := k_iconst (dk_iconst_3 (by decide +kernel : bk1 cX8_init 42 6 = true)) (by decide)
theorem oX8_init_43 : pm_okF cX8_init RX8 2 true 43 (s_newq 4 46) := k_newq (C := RX5) (fun _ => rfl) (fun _ _ _ _ _ h => h.2.1) (wk0 wb_1_167) (dk_anewarray (by decide +kernel : bk3 cX8_init 43 189 25 = true))
theorem oX8_init_46 : pm_okF cX8_init RX8 2 true 46 (s_putf 8 3 (.array (.object "ParkingTrees$Street")) 49) := k_putF (C := RX8) (T := TX8) (N := 12) rfl inX8 tyX8_ok nmX8 (by decide) rfl rfl rfl (wk3 wb_2_26) (dk_putfield (by decide +kernel : bk3 cX8_init 46 181 32 = true))
theorem oX8_init_49 : pm_okF cX8_init RX8 2 true 49 (s_const (.int 0) 50) := k_iconst (dk_iconst_0 (by decide +kernel : bk1 cX8_init 49 3 = true)) (by decide)
theorem oX8_init_50 : pm_okF cX8_init RX8 2 true 50 (s_is 1 51) := k_istore_n (dk_istore_n_1 (by decide +kernel : bk1 cX8_init 50 60 = true)) rfl (by decide)
theorem oX8_init_51 : pm_okF cX8_init RX8 2 true 51 (s_il 1 52) := k_iload_n (dk_iload_n_1 (by decide +kernel : bk1 cX8_init 51 27 = true)) rfl
theorem oX8_init_52 : pm_okF cX8_init RX8 2 true 52 (s_const (.int 3) 53) := k_iconst (dk_iconst_3 (by decide +kernel : bk1 cX8_init 52 6 = true)) (by decide)
theorem oX8_init_53 : pm_okF cX8_init RX8 2 true 53 (s_icmp (fun x y => decide (y ≤ x)) 75 56) := k_icmp_ge (dk_if_icmp_ge (by decide +kernel : bkS cX8_init 53 162 22 = true)) (by decide)
theorem oX8_init_56 : pm_okF cX8_init RX8 2 true 56 (s_al 0 57) := k_aload_n (dk_aload_n_0 (by decide +kernel : bk1 cX8_init 56 42 = true)) rfl
theorem oX8_init_57 : pm_okF cX8_init RX8 2 true 57 (s_getf 8 3 60) := k_getf (C := RX8) (T := TX8) (N := 12) rfl inX8 (by decide) (wk3 wb_2_26) (dk_getfield (by decide +kernel : bk3 cX8_init 57 180 32 = true))
theorem oX8_init_60 : pm_okF cX8_init RX8 2 true 60 (s_il 1 61) := k_iload_n (dk_iload_n_1 (by decide +kernel : bk1 cX8_init 60 27 = true)) rfl
theorem oX8_init_61 : pm_okF cX8_init RX8 2 true 61 (s_new 5 dfX5 15 64) := k_new5 (wk0 wb_1_167) (dk_new (by decide +kernel : bk3 cX8_init 61 187 25 = true))
theorem oX8_init_64 : pm_okF cX8_init RX8 2 true 64 (s_dup 65) := k_dup (dk_dup (by decide +kernel : bk1 cX8_init 64 89 = true))
theorem oX8_init_65 : ∃ I : pm_M, pm_at pm_P 52 = some I ∧ I.2.2.2.2.2.1 = 8 ∧ I.2.2.2.2.2.2.1 = 100 ∧ pm_okC cX8_init RX8 2 true 65 I.1 I.2.1 I.2.2.1 I.2.2.2.1 1 (some 5) 8 100 := ⟨iX5_init, aiX5_init, rfl, rfl, k_callI (n := 0) (dk_invokespecial (by decide +kernel : bk3 cX8_init 65 183 27 = true)) (wk11 wb_1_42) (wk1 wb_1_167) (wk10 wb_1_42) (wk3 wb_1_1) rfl (by decide +kernel) (by decide) (by decide)⟩
theorem oX8_init_68 : pm_okF cX8_init RX8 2 true 68 (s_aast 4 5 69) := k_aast (r := (RX5, TX5, 15)) (fun _ => rfl) rfl (dk_aastore (by decide +kernel : bk1 cX8_init 68 83 = true))
theorem oX8_init_69 : pm_okF cX8_init RX8 2 true 69 (s_inc 1 1 72) := k_iinc (dk_iinc (by decide +kernel : bkI cX8_init 69 132 1 1 = true)) (by decide) (by decide)
theorem oX8_init_72 : pm_okF cX8_init RX8 2 true 72 (s_goto 51) := k_goto (dk_goto (by decide +kernel : bkS cX8_init 72 167 (-21) = true)) (by decide)
theorem oX8_init_75 : pm_okF cX8_init RX8 2 true 75 (s_al 0 76) := k_aload_n (dk_aload_n_0 (by decide +kernel : bk1 cX8_init 75 42 = true)) rfl
theorem oX8_init_76 : pm_okF cX8_init RX8 2 true 76 (s_const (.int 3) 77) := k_iconst (dk_iconst_3 (by decide +kernel : bk1 cX8_init 76 6 = true)) (by decide)
theorem oX8_init_77 : pm_okF cX8_init RX8 2 true 77 (s_newa 2 (.inl (fun _ => 0)) 79) := k_newa_boolean (by decide +kernel : decode cX8_init 77 = .ok (.newarray .boolean, 2))
theorem oX8_init_79 : pm_okF cX8_init RX8 2 true 79 (s_putf 8 4 (.array .boolean) 82) := k_putF (C := RX8) (T := TX8) (N := 12) rfl inX8 tyX8_ok nmX8 (by decide) rfl rfl rfl (wk4 wb_2_26) (dk_putfield (by decide +kernel : bk3 cX8_init 79 181 36 = true))
theorem oX8_init_82 : pm_okF cX8_init RX8 2 true 82 (s_al 0 83) := k_aload_n (dk_aload_n_0 (by decide +kernel : bk1 cX8_init 82 42 = true)) rfl
theorem oX8_init_83 : pm_okF cX8_init RX8 2 true 83 (s_const (.int 4) 84) := k_iconst (dk_iconst_4 (by decide +kernel : bk1 cX8_init 83 7 = true)) (by decide)
theorem oX8_init_84 : pm_okF cX8_init RX8 2 true 84 (s_newq 5 87) := k_newq (C := RX4) (fun _ => rfl) (fun _ _ _ _ _ h => h.2.2.1) (wk0 wb_1_170) (dk_anewarray (by decide +kernel : bk3 cX8_init 84 189 40 = true))
theorem oX8_init_87 : pm_okF cX8_init RX8 2 true 87 (s_putf 8 5 (.array (.object "ParkingTrees$Slot")) 90) := k_putF (C := RX8) (T := TX8) (N := 12) rfl inX8 tyX8_ok nmX8 (by decide) rfl rfl rfl (wk5 wb_2_26) (dk_putfield (by decide +kernel : bk3 cX8_init 87 181 42 = true))
theorem oX8_init_90 : pm_okF cX8_init RX8 2 true 90 (s_const (.int 0) 91) := k_iconst (dk_iconst_0 (by decide +kernel : bk1 cX8_init 90 3 = true)) (by decide)
theorem oX8_init_91 : pm_okF cX8_init RX8 2 true 91 (s_is 1 92) := k_istore_n (dk_istore_n_1 (by decide +kernel : bk1 cX8_init 91 60 = true)) rfl (by decide)
theorem oX8_init_92 : pm_okF cX8_init RX8 2 true 92 (s_il 1 93) := k_iload_n (dk_iload_n_1 (by decide +kernel : bk1 cX8_init 92 27 = true)) rfl
theorem oX8_init_93 : pm_okF cX8_init RX8 2 true 93 (s_const (.int 4) 94) := k_iconst (dk_iconst_4 (by decide +kernel : bk1 cX8_init 93 7 = true)) (by decide)
theorem oX8_init_94 : pm_okF cX8_init RX8 2 true 94 (s_icmp (fun x y => decide (y ≤ x)) 116 97) := k_icmp_ge (dk_if_icmp_ge (by decide +kernel : bkS cX8_init 94 162 22 = true)) (by decide)
theorem oX8_init_97 : pm_okF cX8_init RX8 2 true 97 (s_al 0 98) := k_aload_n (dk_aload_n_0 (by decide +kernel : bk1 cX8_init 97 42 = true)) rfl
theorem oX8_init_98 : pm_okF cX8_init RX8 2 true 98 (s_getf 8 5 101) := k_getf (C := RX8) (T := TX8) (N := 12) rfl inX8 (by decide) (wk5 wb_2_26) (dk_getfield (by decide +kernel : bk3 cX8_init 98 180 42 = true))
theorem oX8_init_101 : pm_okF cX8_init RX8 2 true 101 (s_il 1 102) := k_iload_n (dk_iload_n_1 (by decide +kernel : bk1 cX8_init 101 27 = true)) rfl
theorem oX8_init_102 : pm_okF cX8_init RX8 2 true 102 (s_new 4 dfX4 4 105) := k_new4 (wk0 wb_1_170) (dk_new (by decide +kernel : bk3 cX8_init 102 187 40 = true))
theorem oX8_init_105 : pm_okF cX8_init RX8 2 true 105 (s_dup 106) := k_dup (dk_dup (by decide +kernel : bk1 cX8_init 105 89 = true))
theorem oX8_init_106 : ∃ I : pm_M, pm_at pm_P 46 = some I ∧ I.2.2.2.2.2.1 = 1 ∧ I.2.2.2.2.2.2.1 = 60 ∧ pm_okC cX8_init RX8 2 true 106 I.1 I.2.1 I.2.2.1 I.2.2.2.1 1 (some 4) 1 60 := ⟨iX4_init, aiX4_init, rfl, rfl, k_callI (n := 0) (dk_invokespecial (by decide +kernel : bk3 cX8_init 106 183 46 = true)) (wk3 wb_1_172) (wk1 wb_1_172) (wk2 wb_1_172) (wk5 wb_1_1) rfl (by decide +kernel) (by decide) (by decide)⟩
theorem oX8_init_109 : pm_okF cX8_init RX8 2 true 109 (s_aast 5 4 110) := k_aast (r := (RX4, TX4, 4)) (fun _ => rfl) rfl (dk_aastore (by decide +kernel : bk1 cX8_init 109 83 = true))
theorem oX8_init_110 : pm_okF cX8_init RX8 2 true 110 (s_inc 1 1 113) := k_iinc (dk_iinc (by decide +kernel : bkI cX8_init 110 132 1 1 = true)) (by decide) (by decide)
theorem oX8_init_113 : pm_okF cX8_init RX8 2 true 113 (s_goto 92) := k_goto (dk_goto (by decide +kernel : bkS cX8_init 113 167 (-21) = true)) (by decide)
theorem oX8_init_116 : pm_okF cX8_init RX8 2 true 116 (s_al 0 117) := k_aload_n (dk_aload_n_0 (by decide +kernel : bk1 cX8_init 116 42 = true)) rfl
theorem oX8_init_117 : pm_okF cX8_init RX8 2 true 117 (s_new 1 dfX1 4 120) := k_new1 (wk1 wb_1_194) (dk_new (by decide +kernel : bk3 cX8_init 117 187 47 = true))
theorem oX8_init_120 : pm_okF cX8_init RX8 2 true 120 (s_dup 121) := k_dup (dk_dup (by decide +kernel : bk1 cX8_init 120 89 = true))
theorem oX8_init_121 : ∃ I : pm_M, pm_at pm_P 22 = some I ∧ I.2.2.2.2.2.1 = 1 ∧ I.2.2.2.2.2.2.1 = 8 ∧ pm_okC cX8_init RX8 2 true 121 I.1 I.2.1 I.2.2.1 I.2.2.2.1 1 (some 1) 1 8 := ⟨iX1_init, aiX1_init, rfl, rfl, k_callI (n := 0) (dk_invokespecial (by decide +kernel : bk3 cX8_init 121 183 49 = true)) (wk5 wb_1_194) (wk3 wb_1_194) (wk4 wb_1_194) (wk6 wb_1_1) rfl (by decide +kernel) (by decide) (by decide)⟩
theorem oX8_init_124 : pm_okF cX8_init RX8 2 true 124 (s_putf 8 6 (.object "ParkingTrees$Lot") 127) := k_putF (C := RX8) (T := TX8) (N := 12) rfl inX8 tyX8_ok nmX8 (by decide) rfl rfl rfl (wk6 wb_2_26) (dk_putfield (by decide +kernel : bk3 cX8_init 124 181 50 = true))
theorem oX8_init_127 : pm_okF cX8_init RX8 2 true 127 (s_al 0 128) := k_aload_n (dk_aload_n_0 (by decide +kernel : bk1 cX8_init 127 42 = true)) rfl
theorem oX8_init_128 : pm_okF cX8_init RX8 2 true 128 (s_new 7 dfX7 7 131) := k_new7 (wk0 wb_1_218) (dk_new (by decide +kernel : bk3 cX8_init 128 187 54 = true))
theorem oX8_init_131 : pm_okF cX8_init RX8 2 true 131 (s_dup 132) := k_dup (dk_dup (by decide +kernel : bk1 cX8_init 131 89 = true))
theorem oX8_init_132 : ∃ I : pm_M, pm_at pm_P 66 = some I ∧ I.2.2.2.2.2.1 = 5 ∧ I.2.2.2.2.2.2.1 = 45 ∧ pm_okC cX8_init RX8 2 true 132 I.1 I.2.1 I.2.2.1 I.2.2.2.1 1 (some 7) 5 45 := ⟨iX7_init, aiX7_init, rfl, rfl, k_callI (n := 0) (dk_invokespecial (by decide +kernel : bk3 cX8_init 132 183 56 = true)) (wk4 wb_1_218) (wk2 wb_1_218) (wk3 wb_1_218) (wk7 wb_1_1) rfl (by decide +kernel) (by decide) (by decide)⟩
theorem oX8_init_135 : pm_okF cX8_init RX8 2 true 135 (s_putf 8 7 (.object "ParkingTrees$Tree") 138) := k_putF (C := RX8) (T := TX8) (N := 12) rfl inX8 tyX8_ok nmX8 (by decide) rfl rfl rfl (wk7 wb_2_26) (dk_putfield (by decide +kernel : bk3 cX8_init 135 181 57 = true))
theorem oX8_init_138 : pm_okF cX8_init RX8 2 true 138 (s_al 0 139) := k_aload_n (dk_aload_n_0 (by decide +kernel : bk1 cX8_init 138 42 = true)) rfl
theorem oX8_init_139 : pm_okF cX8_init RX8 2 true 139 (s_new 0 dfX0 2 142) := k_new0 (wk0 wb_2_9) (dk_new (by decide +kernel : bk3 cX8_init 139 187 61 = true))
theorem oX8_init_142 : pm_okF cX8_init RX8 2 true 142 (s_dup 143) := k_dup (dk_dup (by decide +kernel : bk1 cX8_init 142 89 = true))
theorem oX8_init_143 : ∃ I : pm_M, pm_at pm_P 13 = some I ∧ I.2.2.2.2.2.1 = 1 ∧ I.2.2.2.2.2.2.1 = 10 ∧ pm_okC cX8_init RX8 2 true 143 I.1 I.2.1 I.2.2.1 I.2.2.2.1 1 (some 0) 1 10 := ⟨iX0_init, aiX0_init, rfl, rfl, k_callI (n := 0) (dk_invokespecial (by decide +kernel : bk3 cX8_init 143 183 63 = true)) (wk6 wb_1_117) (wk1 wb_2_9) (wk5 wb_1_117) (wk4 wb_1_1) rfl (by decide +kernel) (by decide) (by decide)⟩
theorem oX8_init_146 : pm_okF cX8_init RX8 2 true 146 (s_putf 8 8 (.object "ParkingTrees$Blocks") 149) := k_putF (C := RX8) (T := TX8) (N := 12) rfl inX8 tyX8_ok nmX8 (by decide) rfl rfl rfl (wk8 wb_2_26) (dk_putfield (by decide +kernel : bk3 cX8_init 146 181 64 = true))
theorem oX8_init_149 : pm_okF cX8_init RX8 2 true 149 (s_al 0 150) := k_aload_n (dk_aload_n_0 (by decide +kernel : bk1 cX8_init 149 42 = true)) rfl
theorem oX8_init_150 : pm_okF cX8_init RX8 2 true 150 (s_new 3 dfX3 2 153) := k_new3 (wk2 wb_2_9) (dk_new (by decide +kernel : bk3 cX8_init 150 187 68 = true))
theorem oX8_init_153 : pm_okF cX8_init RX8 2 true 153 (s_dup 154) := k_dup (dk_dup (by decide +kernel : bk1 cX8_init 153 89 = true))
theorem oX8_init_154 : ∃ I : pm_M, pm_at pm_P 43 = some I ∧ I.2.2.2.2.2.1 = 2 ∧ I.2.2.2.2.2.2.1 = 512 ∧ pm_okC cX8_init RX8 2 true 154 I.1 I.2.1 I.2.2.1 I.2.2.2.1 1 (some 3) 2 512 := ⟨iX3_init, aiX3_init, rfl, rfl, k_callI (n := 0) (dk_invokespecial (by decide +kernel : bk3 cX8_init 154 183 70 = true)) (wk6 wb_2_9) (wk4 wb_2_9) (wk5 wb_2_9) (wk8 wb_1_1) rfl (by decide +kernel) (by decide) (by decide)⟩
theorem oX8_init_157 : pm_okF cX8_init RX8 2 true 157 (s_putf 8 9 (.object "ParkingTrees$SetTable") 160) := k_putF (C := RX8) (T := TX8) (N := 12) rfl inX8 tyX8_ok nmX8 (by decide) rfl rfl rfl (wk9 wb_2_26) (dk_putfield (by decide +kernel : bk3 cX8_init 157 181 71 = true))
theorem oX8_init_160 : pm_okF cX8_init RX8 2 true 160 (s_al 0 161) := k_aload_n (dk_aload_n_0 (by decide +kernel : bk1 cX8_init 160 42 = true)) rfl
theorem oX8_init_161 : pm_okF cX8_init RX8 2 true 161 (s_const (.int 8) 163) := k_bipush (dk_bipush (by decide +kernel : bkB cX8_init 161 16 8 = true)) (by decide)
theorem oX8_init_163 : pm_okF cX8_init RX8 2 true 163 (s_newa 0 (.inl (fun _ => 0)) 165) := k_newa_int (by decide +kernel : decode cX8_init 163 = .ok (.newarray .int, 2))
theorem oX8_init_165 : pm_okF cX8_init RX8 2 true 165 (s_putf 8 10 (.array .int) 168) := k_putF (C := RX8) (T := TX8) (N := 12) rfl inX8 tyX8_ok nmX8 (by decide) rfl rfl rfl (wk10 wb_2_26) (dk_putfield (by decide +kernel : bk3 cX8_init 165 181 75 = true))
theorem oX8_init_168 : pm_okF cX8_init RX8 2 true 168 (s_al 0 169) := k_aload_n (dk_aload_n_0 (by decide +kernel : bk1 cX8_init 168 42 = true)) rfl
theorem oX8_init_169 : pm_okF cX8_init RX8 2 true 169 (s_const (.int 64) 171) := k_bipush (dk_bipush (by decide +kernel : bkB cX8_init 169 16 64 = true)) (by decide)
theorem oX8_init_171 : pm_okF cX8_init RX8 2 true 171 (s_newa 0 (.inl (fun _ => 0)) 173) := k_newa_int (by decide +kernel : decode cX8_init 171 = .ok (.newarray .int, 2))
theorem oX8_init_173 : pm_okF cX8_init RX8 2 true 173 (s_putf 8 11 (.array .int) 176) := k_putF (C := RX8) (T := TX8) (N := 12) rfl inX8 tyX8_ok nmX8 (by decide) rfl rfl rfl (wk11 wb_2_26) (dk_putfield (by decide +kernel : bk3 cX8_init 173 181 79 = true))
theorem oX8_init_176 : pm_okR cX8_init none 176 0 := ⟨rfl, (dk_return (by decide +kernel : bk1 cX8_init 176 177 = true))⟩
set_option maxRecDepth 20000 in
theorem oX8_init : pm_okM pm_P iX8_init := ⟨rfl, fun _ => rfl, List.forall_mem_cons.mpr ⟨oX8_init_0, List.forall_mem_cons.mpr ⟨oX8_init_1, List.forall_mem_cons.mpr ⟨oX8_init_4, List.forall_mem_cons.mpr ⟨oX8_init_5, List.forall_mem_cons.mpr ⟨oX8_init_8, List.forall_mem_cons.mpr ⟨oX8_init_9, List.forall_mem_cons.mpr ⟨oX8_init_12, List.forall_mem_cons.mpr ⟨oX8_init_15, List.forall_mem_cons.mpr ⟨oX8_init_16, List.forall_mem_cons.mpr ⟨oX8_init_19, List.forall_mem_cons.mpr ⟨oX8_init_20, List.forall_mem_cons.mpr ⟨oX8_init_21, List.forall_mem_cons.mpr ⟨oX8_init_24, List.forall_mem_cons.mpr ⟨oX8_init_27, List.forall_mem_cons.mpr ⟨oX8_init_30, List.forall_mem_cons.mpr ⟨oX8_init_31, List.forall_mem_cons.mpr ⟨oX8_init_34, List.forall_mem_cons.mpr ⟨oX8_init_35, List.forall_mem_cons.mpr ⟨oX8_init_38, List.forall_mem_cons.mpr ⟨oX8_init_41, List.forall_mem_cons.mpr ⟨oX8_init_42, List.forall_mem_cons.mpr ⟨oX8_init_43, List.forall_mem_cons.mpr ⟨oX8_init_46, List.forall_mem_cons.mpr ⟨oX8_init_49, List.forall_mem_cons.mpr ⟨oX8_init_50, List.forall_mem_cons.mpr ⟨oX8_init_51, List.forall_mem_cons.mpr ⟨oX8_init_52, List.forall_mem_cons.mpr ⟨oX8_init_53, List.forall_mem_cons.mpr ⟨oX8_init_56, List.forall_mem_cons.mpr ⟨oX8_init_57, List.forall_mem_cons.mpr ⟨oX8_init_60, List.forall_mem_cons.mpr ⟨oX8_init_61, List.forall_mem_cons.mpr ⟨oX8_init_64, List.forall_mem_cons.mpr ⟨oX8_init_65, List.forall_mem_cons.mpr ⟨oX8_init_68, List.forall_mem_cons.mpr ⟨oX8_init_69, List.forall_mem_cons.mpr ⟨oX8_init_72, List.forall_mem_cons.mpr ⟨oX8_init_75, List.forall_mem_cons.mpr ⟨oX8_init_76, List.forall_mem_cons.mpr ⟨oX8_init_77, List.forall_mem_cons.mpr ⟨oX8_init_79, List.forall_mem_cons.mpr ⟨oX8_init_82, List.forall_mem_cons.mpr ⟨oX8_init_83, List.forall_mem_cons.mpr ⟨oX8_init_84, List.forall_mem_cons.mpr ⟨oX8_init_87, List.forall_mem_cons.mpr ⟨oX8_init_90, List.forall_mem_cons.mpr ⟨oX8_init_91, List.forall_mem_cons.mpr ⟨oX8_init_92, List.forall_mem_cons.mpr ⟨oX8_init_93, List.forall_mem_cons.mpr ⟨oX8_init_94, List.forall_mem_cons.mpr ⟨oX8_init_97, List.forall_mem_cons.mpr ⟨oX8_init_98, List.forall_mem_cons.mpr ⟨oX8_init_101, List.forall_mem_cons.mpr ⟨oX8_init_102, List.forall_mem_cons.mpr ⟨oX8_init_105, List.forall_mem_cons.mpr ⟨oX8_init_106, List.forall_mem_cons.mpr ⟨oX8_init_109, List.forall_mem_cons.mpr ⟨oX8_init_110, List.forall_mem_cons.mpr ⟨oX8_init_113, List.forall_mem_cons.mpr ⟨oX8_init_116, List.forall_mem_cons.mpr ⟨oX8_init_117, List.forall_mem_cons.mpr ⟨oX8_init_120, List.forall_mem_cons.mpr ⟨oX8_init_121, List.forall_mem_cons.mpr ⟨oX8_init_124, List.forall_mem_cons.mpr ⟨oX8_init_127, List.forall_mem_cons.mpr ⟨oX8_init_128, List.forall_mem_cons.mpr ⟨oX8_init_131, List.forall_mem_cons.mpr ⟨oX8_init_132, List.forall_mem_cons.mpr ⟨oX8_init_135, List.forall_mem_cons.mpr ⟨oX8_init_138, List.forall_mem_cons.mpr ⟨oX8_init_139, List.forall_mem_cons.mpr ⟨oX8_init_142, List.forall_mem_cons.mpr ⟨oX8_init_143, List.forall_mem_cons.mpr ⟨oX8_init_146, List.forall_mem_cons.mpr ⟨oX8_init_149, List.forall_mem_cons.mpr ⟨oX8_init_150, List.forall_mem_cons.mpr ⟨oX8_init_153, List.forall_mem_cons.mpr ⟨oX8_init_154, List.forall_mem_cons.mpr ⟨oX8_init_157, List.forall_mem_cons.mpr ⟨oX8_init_160, List.forall_mem_cons.mpr ⟨oX8_init_161, List.forall_mem_cons.mpr ⟨oX8_init_163, List.forall_mem_cons.mpr ⟨oX8_init_165, List.forall_mem_cons.mpr ⟨oX8_init_168, List.forall_mem_cons.mpr ⟨oX8_init_169, List.forall_mem_cons.mpr ⟨oX8_init_171, List.forall_mem_cons.mpr ⟨oX8_init_173, List.forall_mem_cons.mpr ⟨oX8_init_176, fun _ h => absurd h List.not_mem_nil⟩⟩⟩⟩⟩⟩⟩⟩⟩⟩⟩⟩⟩⟩⟩⟩⟩⟩⟩⟩⟩⟩⟩⟩⟩⟩⟩⟩⟩⟩⟩⟩⟩⟩⟩⟩⟩⟩⟩⟩⟩⟩⟩⟩⟩⟩⟩⟩⟩⟩⟩⟩⟩⟩⟩⟩⟩⟩⟩⟩⟩⟩⟩⟩⟩⟩⟩⟩⟩⟩⟩⟩⟩⟩⟩⟩⟩⟩⟩⟩⟩⟩⟩⟩⟩⟩⟩⟩⟩
set_option maxRecDepth 20000 in
theorem oX8_inversions : pm_okM pm_P iX8_inversions := rows_F (kd := 1) (plainFor_of_name pnRX8) rfl (abX8_inversions w0) poRX8_g pcRX8_g rfl (by decide +kernel)
set_option maxRecDepth 20000 in
theorem oX8_isAsSeen : pm_okM pm_P iX8_isAsSeen := rows_F (kd := 2) (plainFor_of_name pnRX8) rfl (abX8_isAsSeen w0) poRX8_g pcRX8_g rfl (by decide +kernel)
set_option maxRecDepth 20000 in
theorem oX8_isLawful : pm_okM pm_P iX8_isLawful := rows_F (kd := 2) (plainFor_of_name pnRX8) rfl (abX8_isLawful w0) poRX8_g pcRX8_g rfl (by decide +kernel)
set_option maxRecDepth 20000 in
theorem oX8_isSeed : pm_okM pm_P iX8_isSeed := rows_F (kd := 2) (plainFor_of_name pnRX8) rfl (abX8_isSeed w0) poRX8_g pcRX8_g rfl (by decide +kernel)
set_option maxRecDepth 20000 in
theorem oX8_isSlot : pm_okM pm_P iX8_isSlot := rows_F (kd := 2) (plainFor_of_name pnRX8) rfl (abX8_isSlot w0) poRX8_g pcRX8_g rfl (by decide +kernel)
set_option maxRecDepth 20000 in
theorem oX8_isTallied : pm_okM pm_P iX8_isTallied := rows_F (kd := 2) (plainFor_of_name pnRX8) rfl (abX8_isTallied w0) poRX8_g pcRX8_g rfl (by decide +kernel)
set_option maxRecDepth 20000 in
theorem oX8_isTerm : pm_okM pm_P iX8_isTerm := rows_F (kd := 2) (plainFor_of_name pnRX8) rfl (abX8_isTerm w0) poRX8_g pcRX8_g rfl (by decide +kernel)
set_option maxRecDepth 20000 in
theorem oX8_isTreeCar : pm_okM pm_P iX8_isTreeCar := rows_F (kd := 2) (plainFor_of_name pnRX8) rfl (abX8_isTreeCar w0) poRX8_g pcRX8_g rfl (by decide +kernel)
set_option maxRecDepth 20000 in
theorem oX8_joinFirst : pm_okM pm_P iX8_joinFirst := rows_F (kd := 0) (plainFor_of_name pnRX8) rfl (abX8_joinFirst w0) poRX8_g pcRX8_g rfl (by decide +kernel)
end
section
/-! the rows are sound (written by tab2.py) -/
set_option maxRecDepth 20000 in
theorem oX8_kids : pm_okM pm_P iX8_kids := rows_F (kd := 1) (plainFor_of_name pnRX8) rfl (abX8_kids w0) poRX8_g pcRX8_g rfl (by decide +kernel)
set_option maxRecDepth 20000 in
theorem oX8_label : pm_okM pm_P iX8_label := rows_F (kd := 1) (plainFor_of_name pnRX8) rfl (abX8_label w0) poRX8_g pcRX8_g rfl (by decide +kernel)
set_option maxRecDepth 20000 in
theorem oX8_labels : pm_okM pm_P iX8_labels := rows_F (kd := 1) (plainFor_of_name pnRX8) rfl (abX8_labels w0) poRX8_g pcRX8_g rfl (by decide +kernel)
set_option maxRecDepth 20000 in
theorem oX8_law : pm_okM pm_P iX8_law := rows_F (kd := 1) (plainFor_of_name pnRX8) rfl (abX8_law w0) poRX8_g pcRX8_g rfl (by decide +kernel)
set_option maxRecDepth 20000 in
theorem oX8_lawful : pm_okM pm_P iX8_lawful := rows_F (kd := 1) (plainFor_of_name pnRX8) rfl (abX8_lawful w0) poRX8_g pcRX8_g rfl (by decide +kernel)
set_option maxRecDepth 20000 in
theorem oX8_lawfulRows : pm_okM pm_P iX8_lawfulRows := rows_F (kd := 1) (plainFor_of_name pnRX8) rfl (abX8_lawfulRows w0) poRX8_g pcRX8_g rfl (by decide +kernel)
set_option maxRecDepth 20000 in
theorem oX8_laws : pm_okM pm_P iX8_laws := rows_F (kd := 1) (plainFor_of_name pnRX8) rfl (abX8_laws w0) poRX8_g pcRX8_g rfl (by decide +kernel)
set_option maxRecDepth 20000 in
theorem oX8_leaves : pm_okM pm_P iX8_leaves := rows_F (kd := 1) (plainFor_of_name pnRX8) rfl (abX8_leaves w0) poRX8_g pcRX8_g rfl (by decide +kernel)
set_option maxRecDepth 20000 in
theorem oX8_leftAtWorst : pm_okM pm_P iX8_leftAtWorst := rows_F (kd := 1) (plainFor_of_name pnRX8) rfl (abX8_leftAtWorst w0) poRX8_g pcRX8_g rfl (by decide +kernel)
set_option maxRecDepth 20000 in
theorem oX8_likeWishes : pm_okM pm_P iX8_likeWishes := rows_F (kd := 1) (plainFor_of_name pnRX8) rfl (abX8_likeWishes w0) poRX8_g pcRX8_g rfl (by decide +kernel)
set_option maxRecDepth 20000 in
theorem oX8_likes : pm_okM pm_P iX8_likes := rows_F (kd := 1) (plainFor_of_name pnRX8) rfl (abX8_likes w0) poRX8_g pcRX8_g rfl (by decide +kernel)
set_option maxRecDepth 20000 in
theorem oX8_lost : pm_okM pm_P iX8_lost := rows_F (kd := 1) (plainFor_of_name pnRX8) rfl (abX8_lost w0) poRX8_g pcRX8_g rfl (by decide +kernel)
set_option maxRecDepth 20000 in
theorem oX8_luck : pm_okM pm_P iX8_luck := rows_F (kd := 1) (plainFor_of_name pnRX8) rfl (abX8_luck w0) poRX8_g pcRX8_g rfl (by decide +kernel)
set_option maxRecDepth 20000 in
theorem oX8_lucky : pm_okM pm_P iX8_lucky := rows_F (kd := 1) (plainFor_of_name pnRX8) rfl (abX8_lucky w0) poRX8_g pcRX8_g rfl (by decide +kernel)
set_option maxRecDepth 20000 in
theorem oX8_may : pm_okM pm_P iX8_may := rows_F (kd := 1) (plainFor_of_name pnRX8) rfl (abX8_may w0) poRX8_g pcRX8_g rfl (by decide +kernel)
set_option maxRecDepth 20000 in
theorem oX8_mean : pm_okM pm_P iX8_mean := rows_F (kd := 3) (plainFor_of_name pnRX8) rfl (abX8_mean w0) poRX8_g pcRX8_g rfl (by decide +kernel)
set_option maxRecDepth 20000 in
theorem oX8_mend : pm_okM pm_P iX8_mend := rows_F (kd := 1) (plainFor_of_name pnRX8) rfl (abX8_mend w0) poRX8_g pcRX8_g rfl (by decide +kernel)
set_option maxRecDepth 20000 in
theorem oX8_merged : pm_okM pm_P iX8_merged := rows_F (kd := 1) (plainFor_of_name pnRX8) rfl (abX8_merged w0) poRX8_g pcRX8_g rfl (by decide +kernel)
set_option maxRecDepth 20000 in
theorem oX8_moved : pm_okM pm_P iX8_moved := rows_F (kd := 1) (plainFor_of_name pnRX8) rfl (abX8_moved w0) poRX8_g pcRX8_g rfl (by decide +kernel)
set_option maxRecDepth 20000 in
theorem oX8_next : pm_okM pm_P iX8_next := rows_F (kd := 1) (plainFor_of_name pnRX8) rfl (abX8_next w0) poRX8_g pcRX8_g rfl (by decide +kernel)
set_option maxRecDepth 20000 in
theorem oX8_parent : pm_okM pm_P iX8_parent := rows_F (kd := 1) (plainFor_of_name pnRX8) rfl (abX8_parent w0) poRX8_g pcRX8_g rfl (by decide +kernel)
set_option maxRecDepth 20000 in
theorem oX8_park : pm_okM pm_P iX8_park := rows_F (kd := 0) (plainFor_of_name pnRX8) rfl (abX8_park w0) poRX8_g pcRX8_g rfl (by decide +kernel)
end
section
/-! the rows are sound (written by tab2.py) -/
set_option maxRecDepth 20000 in
theorem oX8_parkAll : pm_okM pm_P iX8_parkAll := rows_F (kd := 0) (plainFor_of_name pnRX8) rfl (abX8_parkAll w0) poRX8_g pcRX8_g rfl (by decide +kernel)
set_option maxRecDepth 20000 in
theorem oX8_parkOnRing : pm_okM pm_P iX8_parkOnRing := rows_F (kd := 0) (plainFor_of_name pnRX8) rfl (abX8_parkOnRing w0) poRX8_g pcRX8_g rfl (by decide +kernel)
set_option maxRecDepth 20000 in
theorem oX8_parkSet : pm_okM pm_P iX8_parkSet := rows_F (kd := 0) (plainFor_of_name pnRX8) rfl (abX8_parkSet w0) poRX8_g pcRX8_g rfl (by decide +kernel)
set_option maxRecDepth 20000 in
theorem oX8_parkWith : pm_okM pm_P iX8_parkWith := rows_F (kd := 0) (plainFor_of_name pnRX8) rfl (abX8_parkWith w0) poRX8_g pcRX8_g rfl (by decide +kernel)
theorem oX8_paste_0 : pm_okF cX8_paste RX8 8 false 0 (s_il 1 1) := k_iload_n (dk_iload_n_1 (by decide +kernel : bk1 cX8_paste 0 27 = true)) rfl
theorem oX8_paste_1 : ∃ I : pm_M, pm_at pm_P 127 = some I ∧ I.2.2.2.2.2.1 = 0 ∧ I.2.2.2.2.2.2.1 = 0 ∧ pm_okC cX8_paste RX8 8 false 1 I.1 I.2.1 I.2.2.1 I.2.2.2.1 1 (none) 0 0 := ⟨iX8_isSlot, aiX8_isSlot, rfl, rfl, k_callS (n := 1) (dk_invokestatic (by decide +kernel : bk3 cX8_paste 1 184 378 = true)) (wk4 wb_4_22) (wk2 wb_4_22) (wk3 wb_4_22) (wk0 wb_1_1) (by decide +kernel) (by decide)⟩
theorem oX8_paste_4 : pm_okF cX8_paste RX8 8 false 4 (s_if (fun x => decide (x = 0)) 14 7) := k_if_eq (dk_ifCond_eq (by decide +kernel : bkS cX8_paste 4 153 10 = true)) (by decide)
theorem oX8_paste_7 : pm_okF cX8_paste RX8 8 false 7 (s_il 3 8) := k_iload_n (dk_iload_n_3 (by decide +kernel : bk1 cX8_paste 7 29 = true)) rfl
theorem oX8_paste_8 : ∃ I : pm_M, pm_at pm_P 127 = some I ∧ I.2.2.2.2.2.1 = 0 ∧ I.2.2.2.2.2.2.1 = 0 ∧ pm_okC cX8_paste RX8 8 false 8 I.1 I.2.1 I.2.2.1 I.2.2.2.1 1 (none) 0 0 := ⟨iX8_isSlot, aiX8_isSlot, rfl, rfl, k_callS (n := 1) (dk_invokestatic (by decide +kernel : bk3 cX8_paste 8 184 378 = true)) (wk4 wb_4_22) (wk2 wb_4_22) (wk3 wb_4_22) (wk0 wb_1_1) (by decide +kernel) (by decide)⟩
theorem oX8_paste_11 : pm_okF cX8_paste RX8 8 false 11 (s_if (fun x => decide (¬ x = 0)) 17 14) := k_if_ne (dk_ifCond_ne (by decide +kernel : bkS cX8_paste 11 154 6 = true)) (by decide)
theorem oX8_paste_14 : pm_okF cX8_paste RX8 8 false 14 (s_const (.int (-2)) 16) := k_bipush (dk_bipush (by decide +kernel : bkB cX8_paste 14 16 (-2) = true)) (by decide)
theorem oX8_paste_16 : pm_okR cX8_paste (some .int) 16 1 := ⟨rfl, (dk_ireturn (by decide +kernel : bk1 cX8_paste 16 172 = true))⟩
theorem oX8_paste_17 : pm_okF cX8_paste RX8 8 false 17 (s_al 0 18) := k_aload_n (dk_aload_n_0 (by decide +kernel : bk1 cX8_paste 17 42 = true)) rfl
theorem oX8_paste_18 : pm_okF cX8_paste RX8 8 false 18 (s_getf 8 5 21) := k_getf (C := RX8) (T := TX8) (N := 12) rfl inX8 (by decide) (wk5 wb_2_26) (dk_getfield (by decide +kernel : bk3 cX8_paste 18 180 42 = true))
theorem oX8_paste_21 : pm_okF cX8_paste RX8 8 false 21 (s_il 1 22) := k_iload_n (dk_iload_n_1 (by decide +kernel : bk1 cX8_paste 21 27 = true)) rfl
theorem oX8_paste_22 : pm_okF cX8_paste RX8 8 false 22 (s_aald 5 23) := k_aald (C := RX4) (fun _ => rfl) (dk_aaload (by decide +kernel : bk1 cX8_paste 22 50 = true))
theorem oX8_paste_23 : pm_okF cX8_paste RX8 8 false 23 (s_as 6 25) := k_astore (dk_astore (by decide +kernel : bk2 cX8_paste 23 58 6 = true)) (by decide)
theorem oX8_paste_25 : pm_okF cX8_paste RX8 8 false 25 (s_al 0 26) := k_aload_n (dk_aload_n_0 (by decide +kernel : bk1 cX8_paste 25 42 = true)) rfl
theorem oX8_paste_26 : pm_okF cX8_paste RX8 8 false 26 (s_getf 8 5 29) := k_getf (C := RX8) (T := TX8) (N := 12) rfl inX8 (by decide) (wk5 wb_2_26) (dk_getfield (by decide +kernel : bk3 cX8_paste 26 180 42 = true))
theorem oX8_paste_29 : pm_okF cX8_paste RX8 8 false 29 (s_il 3 30) := k_iload_n (dk_iload_n_3 (by decide +kernel : bk1 cX8_paste 29 29 = true)) rfl
theorem oX8_paste_30 : pm_okF cX8_paste RX8 8 false 30 (s_aald 5 31) := k_aald (C := RX4) (fun _ => rfl) (dk_aaload (by decide +kernel : bk1 cX8_paste 30 50 = true))
theorem oX8_paste_31 : pm_okF cX8_paste RX8 8 false 31 (s_as 7 33) := k_astore (dk_astore (by decide +kernel : bk2 cX8_paste 31 58 7 = true)) (by decide)
theorem oX8_paste_33 : pm_okF cX8_paste RX8 8 false 33 (s_al 6 35) := k_aload (dk_aload (by decide +kernel : bk2 cX8_paste 33 25 6 = true))
theorem oX8_paste_35 : pm_okF cX8_paste RX8 8 false 35 (s_getf 4 1 38) := k_getf (C := RX4) (T := TX4) (N := 4) rfl inX4 (by decide) (wk8 wb_1_172) (dk_getfield (by decide +kernel : bk3 cX8_paste 35 180 384 = true))
theorem oX8_paste_38 : pm_okF cX8_paste RX8 8 false 38 (s_if (fun x => decide (x = 0)) 49 41) := k_if_eq (dk_ifCond_eq (by decide +kernel : bkS cX8_paste 38 153 11 = true)) (by decide)
theorem oX8_paste_41 : pm_okF cX8_paste RX8 8 false 41 (s_al 7 43) := k_aload (dk_aload (by decide +kernel : bk2 cX8_paste 41 25 7 = true))
theorem oX8_paste_43 : pm_okF cX8_paste RX8 8 false 43 (s_getf 4 1 46) := k_getf (C := RX4) (T := TX4) (N := 4) rfl inX4 (by decide) (wk8 wb_1_172) (dk_getfield (by decide +kernel : bk3 cX8_paste 43 180 384 = true))
theorem oX8_paste_46 : pm_okF cX8_paste RX8 8 false 46 (s_if (fun x => decide (¬ x = 0)) 52 49) := k_if_ne (dk_ifCond_ne (by decide +kernel : bkS cX8_paste 46 154 6 = true)) (by decide)
theorem oX8_paste_49 : pm_okF cX8_paste RX8 8 false 49 (s_const (.int (-6)) 51) := k_bipush (dk_bipush (by decide +kernel : bkB cX8_paste 49 16 (-6) = true)) (by decide)
theorem oX8_paste_51 : pm_okR cX8_paste (some .int) 51 1 := ⟨rfl, (dk_ireturn (by decide +kernel : bk1 cX8_paste 51 172 = true))⟩
theorem oX8_paste_52 : pm_okF cX8_paste RX8 8 false 52 (s_al 6 54) := k_aload (dk_aload (by decide +kernel : bk2 cX8_paste 52 25 6 = true))
theorem oX8_paste_54 : pm_okF cX8_paste RX8 8 false 54 (s_getf 4 2 57) := k_getf (C := RX4) (T := TX4) (N := 4) rfl inX4 (by decide) (wk10 wb_1_172) (dk_getfield (by decide +kernel : bk3 cX8_paste 54 180 393 = true))
theorem oX8_paste_57 : pm_okF cX8_paste RX8 8 false 57 (s_al 7 59) := k_aload (dk_aload (by decide +kernel : bk2 cX8_paste 57 25 7 = true))
theorem oX8_paste_59 : pm_okF cX8_paste RX8 8 false 59 (s_getf 4 2 62) := k_getf (C := RX4) (T := TX4) (N := 4) rfl inX4 (by decide) (wk10 wb_1_172) (dk_getfield (by decide +kernel : bk3 cX8_paste 59 180 393 = true))
theorem oX8_paste_62 : pm_okF cX8_paste RX8 8 false 62 (s_icmp (fun x y => decide (x = y)) 68 65) := k_icmp_eq (dk_if_icmp_eq (by decide +kernel : bkS cX8_paste 62 159 6 = true)) (by decide)
theorem oX8_paste_65 : pm_okF cX8_paste RX8 8 false 65 (s_const (.int (-8)) 67) := k_bipush (dk_bipush (by decide +kernel : bkB cX8_paste 65 16 (-8) = true)) (by decide)
theorem oX8_paste_67 : pm_okR cX8_paste (some .int) 67 1 := ⟨rfl, (dk_ireturn (by decide +kernel : bk1 cX8_paste 67 172 = true))⟩
theorem oX8_paste_68 : pm_okF cX8_paste RX8 8 false 68 (s_al 6 70) := k_aload (dk_aload (by decide +kernel : bk2 cX8_paste 68 25 6 = true))
theorem oX8_paste_70 : pm_okF cX8_paste RX8 8 false 70 (s_il 2 71) := k_iload_n (dk_iload_n_2 (by decide +kernel : bk1 cX8_paste 70 28 = true)) rfl
theorem oX8_paste_71 : pm_okF cX8_paste RX8 8 false 71 (s_il 5 73) := k_iload (dk_iload (by decide +kernel : bk2 cX8_paste 71 21 5 = true))
theorem oX8_paste_73 : ∃ I : pm_M, pm_at pm_P 45 = some I ∧ I.2.2.2.2.2.1 = 0 ∧ I.2.2.2.2.2.2.1 = 0 ∧ pm_okC cX8_paste RX8 8 false 73 I.1 I.2.1 I.2.2.1 I.2.2.2.1 3 (some 4) 0 0 := ⟨iX4_holds, aiX4_holds, rfl, rfl, k_callV (n := 2) (T := TX4) (N := 4) (dk_invokevirtual (by decide +kernel : bk3 cX8_paste 73 182 400 = true)) rfl (wk0 wb_5_156) (wk13 wb_5_140) (wk14 wb_5_140) (wk15 wb_5_140) (wk5 wb_1_1) (by decide +kernel) (by decide) (by decide)⟩
theorem oX8_paste_76 : pm_okF cX8_paste RX8 8 false 76 (s_if (fun x => decide (x = 0)) 91 79) := k_if_eq (dk_ifCond_eq (by decide +kernel : bkS cX8_paste 76 153 15 = true)) (by decide)
theorem oX8_paste_79 : pm_okF cX8_paste RX8 8 false 79 (s_al 7 81) := k_aload (dk_aload (by decide +kernel : bk2 cX8_paste 79 25 7 = true))
theorem oX8_paste_81 : pm_okF cX8_paste RX8 8 false 81 (s_il 4 83) := k_iload (dk_iload (by decide +kernel : bk2 cX8_paste 81 21 4 = true))
theorem oX8_paste_83 : pm_okF cX8_paste RX8 8 false 83 (s_il 5 85) := k_iload (dk_iload (by decide +kernel : bk2 cX8_paste 83 21 5 = true))
theorem oX8_paste_85 : ∃ I : pm_M, pm_at pm_P 45 = some I ∧ I.2.2.2.2.2.1 = 0 ∧ I.2.2.2.2.2.2.1 = 0 ∧ pm_okC cX8_paste RX8 8 false 85 I.1 I.2.1 I.2.2.1 I.2.2.2.1 3 (some 4) 0 0 := ⟨iX4_holds, aiX4_holds, rfl, rfl, k_callV (n := 2) (T := TX4) (N := 4) (dk_invokevirtual (by decide +kernel : bk3 cX8_paste 85 182 400 = true)) rfl (wk0 wb_5_156) (wk13 wb_5_140) (wk14 wb_5_140) (wk15 wb_5_140) (wk5 wb_1_1) (by decide +kernel) (by decide) (by decide)⟩
theorem oX8_paste_88 : pm_okF cX8_paste RX8 8 false 88 (s_if (fun x => decide (¬ x = 0)) 94 91) := k_if_ne (dk_ifCond_ne (by decide +kernel : bkS cX8_paste 88 154 6 = true)) (by decide)
theorem oX8_paste_91 : pm_okF cX8_paste RX8 8 false 91 (s_const (.int (-7)) 93) := k_bipush (dk_bipush (by decide +kernel : bkB cX8_paste 91 16 (-7) = true)) (by decide)
theorem oX8_paste_93 : pm_okR cX8_paste (some .int) 93 1 := ⟨rfl, (dk_ireturn (by decide +kernel : bk1 cX8_paste 93 172 = true))⟩
theorem oX8_paste_94 : pm_okF cX8_paste RX8 8 false 94 (s_al 6 96) := k_aload (dk_aload (by decide +kernel : bk2 cX8_paste 94 25 6 = true))
theorem oX8_paste_96 : pm_okF cX8_paste RX8 8 false 96 (s_getf 4 0 99) := k_getf (C := RX4) (T := TX4) (N := 4) rfl inX4 (by decide) (wk6 wb_1_172) (dk_getfield (by decide +kernel : bk3 cX8_paste 96 180 389 = true))
theorem oX8_paste_99 : pm_okF cX8_paste RX8 8 false 99 (s_il 2 100) := k_iload_n (dk_iload_n_2 (by decide +kernel : bk1 cX8_paste 99 28 = true)) rfl
theorem oX8_paste_100 : pm_okF cX8_paste RX8 8 false 100 (s_al 7 102) := k_aload (dk_aload (by decide +kernel : bk2 cX8_paste 100 25 7 = true))
theorem oX8_paste_102 : pm_okF cX8_paste RX8 8 false 102 (s_getf 4 0 105) := k_getf (C := RX4) (T := TX4) (N := 4) rfl inX4 (by decide) (wk6 wb_1_172) (dk_getfield (by decide +kernel : bk3 cX8_paste 102 180 389 = true))
theorem oX8_paste_105 : pm_okF cX8_paste RX8 8 false 105 (s_il 4 107) := k_iload (dk_iload (by decide +kernel : bk2 cX8_paste 105 21 4 = true))
theorem oX8_paste_107 : pm_okF cX8_paste RX8 8 false 107 (s_il 5 109) := k_iload (dk_iload (by decide +kernel : bk2 cX8_paste 107 21 5 = true))
theorem oX8_paste_109 : pm_okF cX8_paste RX8 8 false 109 (s_copy 112) := k_copy (wk1 wb_5_156) (wk3 wb_5_156) (wk2 wb_5_156) (wk2 wb_1_15) (dk_invokestatic (by decide +kernel : bk3 cX8_paste 109 184 403 = true))
theorem oX8_paste_112 : pm_okF cX8_paste RX8 8 false 112 (s_const (.int 0) 113) := k_iconst (dk_iconst_0 (by decide +kernel : bk1 cX8_paste 112 3 = true)) (by decide)
theorem oX8_paste_113 : pm_okR cX8_paste (some .int) 113 1 := ⟨rfl, (dk_ireturn (by decide +kernel : bk1 cX8_paste 113 172 = true))⟩
set_option maxRecDepth 20000 in
theorem oX8_paste : pm_okM pm_P iX8_paste := ⟨(by decide +kernel), (fun h => by cases h), List.forall_mem_cons.mpr ⟨oX8_paste_0, List.forall_mem_cons.mpr ⟨oX8_paste_1, List.forall_mem_cons.mpr ⟨oX8_paste_4, List.forall_mem_cons.mpr ⟨oX8_paste_7, List.forall_mem_cons.mpr ⟨oX8_paste_8, List.forall_mem_cons.mpr ⟨oX8_paste_11, List.forall_mem_cons.mpr ⟨oX8_paste_14, List.forall_mem_cons.mpr ⟨oX8_paste_16, List.forall_mem_cons.mpr ⟨oX8_paste_17, List.forall_mem_cons.mpr ⟨oX8_paste_18, List.forall_mem_cons.mpr ⟨oX8_paste_21, List.forall_mem_cons.mpr ⟨oX8_paste_22, List.forall_mem_cons.mpr ⟨oX8_paste_23, List.forall_mem_cons.mpr ⟨oX8_paste_25, List.forall_mem_cons.mpr ⟨oX8_paste_26, List.forall_mem_cons.mpr ⟨oX8_paste_29, List.forall_mem_cons.mpr ⟨oX8_paste_30, List.forall_mem_cons.mpr ⟨oX8_paste_31, List.forall_mem_cons.mpr ⟨oX8_paste_33, List.forall_mem_cons.mpr ⟨oX8_paste_35, List.forall_mem_cons.mpr ⟨oX8_paste_38, List.forall_mem_cons.mpr ⟨oX8_paste_41, List.forall_mem_cons.mpr ⟨oX8_paste_43, List.forall_mem_cons.mpr ⟨oX8_paste_46, List.forall_mem_cons.mpr ⟨oX8_paste_49, List.forall_mem_cons.mpr ⟨oX8_paste_51, List.forall_mem_cons.mpr ⟨oX8_paste_52, List.forall_mem_cons.mpr ⟨oX8_paste_54, List.forall_mem_cons.mpr ⟨oX8_paste_57, List.forall_mem_cons.mpr ⟨oX8_paste_59, List.forall_mem_cons.mpr ⟨oX8_paste_62, List.forall_mem_cons.mpr ⟨oX8_paste_65, List.forall_mem_cons.mpr ⟨oX8_paste_67, List.forall_mem_cons.mpr ⟨oX8_paste_68, List.forall_mem_cons.mpr ⟨oX8_paste_70, List.forall_mem_cons.mpr ⟨oX8_paste_71, List.forall_mem_cons.mpr ⟨oX8_paste_73, List.forall_mem_cons.mpr ⟨oX8_paste_76, List.forall_mem_cons.mpr ⟨oX8_paste_79, List.forall_mem_cons.mpr ⟨oX8_paste_81, List.forall_mem_cons.mpr ⟨oX8_paste_83, List.forall_mem_cons.mpr ⟨oX8_paste_85, List.forall_mem_cons.mpr ⟨oX8_paste_88, List.forall_mem_cons.mpr ⟨oX8_paste_91, List.forall_mem_cons.mpr ⟨oX8_paste_93, List.forall_mem_cons.mpr ⟨oX8_paste_94, List.forall_mem_cons.mpr ⟨oX8_paste_96, List.forall_mem_cons.mpr ⟨oX8_paste_99, List.forall_mem_cons.mpr ⟨oX8_paste_100, List.forall_mem_cons.mpr ⟨oX8_paste_102, List.forall_mem_cons.mpr ⟨oX8_paste_105, List.forall_mem_cons.mpr ⟨oX8_paste_107, List.forall_mem_cons.mpr ⟨oX8_paste_109, List.forall_mem_cons.mpr ⟨oX8_paste_112, List.forall_mem_cons.mpr ⟨oX8_paste_113, fun _ h => absurd h List.not_mem_nil⟩⟩⟩⟩⟩⟩⟩⟩⟩⟩⟩⟩⟩⟩⟩⟩⟩⟩⟩⟩⟩⟩⟩⟩⟩⟩⟩⟩⟩⟩⟩⟩⟩⟩⟩⟩⟩⟩⟩⟩⟩⟩⟩⟩⟩⟩⟩⟩⟩⟩⟩⟩⟩⟩⟩⟩
set_option maxRecDepth 20000 in
theorem oX8_place : pm_okM pm_P iX8_place := rows_F (kd := 1) (plainFor_of_name pnRX8) rfl (abX8_place w0) poRX8_g pcRX8_g rfl (by decide +kernel)
set_option maxRecDepth 20000 in
theorem oX8_placeBit : pm_okM pm_P iX8_placeBit := rows_F (kd := 1) (plainFor_of_name pnRX8) rfl (abX8_placeBit w0) poRX8_g pcRX8_g rfl (by decide +kernel)
set_option maxRecDepth 20000 in
theorem oX8_power : pm_okM pm_P iX8_power := rows_F (kd := 3) (plainFor_of_name pnRX8) rfl (abX8_power w0) poRX8_g pcRX8_g rfl (by decide +kernel)
set_option maxRecDepth 20000 in
theorem oX8_prime : pm_okM pm_P iX8_prime := rows_F (kd := 1) (plainFor_of_name pnRX8) rfl (abX8_prime w0) poRX8_g pcRX8_g rfl (by decide +kernel)
set_option maxRecDepth 20000 in
theorem oX8_queue : pm_okM pm_P iX8_queue := rows_F (kd := 1) (plainFor_of_name pnRX8) rfl (abX8_queue w0) poRX8_g pcRX8_g rfl (by decide +kernel)
set_option maxRecDepth 20000 in
theorem oX8_rate : pm_okM pm_P iX8_rate := rows_F (kd := 1) (plainFor_of_name pnRX8) rfl (abX8_rate w0) poRX8_g pcRX8_g rfl (by decide +kernel)
set_option maxRecDepth 20000 in
theorem oX8_readCode : pm_okM pm_P iX8_readCode := rows_F (kd := 1) (plainFor_of_name pnRX8) rfl (abX8_readCode w0) poRX8_g pcRX8_g rfl (by decide +kernel)
set_option maxRecDepth 20000 in
theorem oX8_regain : pm_okM pm_P iX8_regain := rows_F (kd := 1) (plainFor_of_name pnRX8) rfl (abX8_regain w0) poRX8_g pcRX8_g rfl (by decide +kernel)
set_option maxRecDepth 20000 in
theorem oX8_region : pm_okM pm_P iX8_region := rows_F (kd := 1) (plainFor_of_name pnRX8) rfl (abX8_region w0) poRX8_g pcRX8_g rfl (by decide +kernel)
set_option maxRecDepth 20000 in
theorem oX8_remain : pm_okM pm_P iX8_remain := rows_F (kd := 1) (plainFor_of_name pnRX8) rfl (abX8_remain w0) poRX8_g pcRX8_g rfl (by decide +kernel)
set_option maxRecDepth 20000 in
theorem oX8_rests : pm_okM pm_P iX8_rests := rows_F (kd := 1) (plainFor_of_name pnRX8) rfl (abX8_rests w0) poRX8_g pcRX8_g rfl (by decide +kernel)
set_option maxRecDepth 20000 in
theorem oX8_ring : pm_okM pm_P iX8_ring := rows_F (kd := 1) (plainFor_of_name pnRX8) rfl (abX8_ring w0) poRX8_g pcRX8_g rfl (by decide +kernel)
set_option maxRecDepth 20000 in
theorem oX8_row : pm_okM pm_P iX8_row := rows_F (kd := 1) (plainFor_of_name pnRX8) rfl (abX8_row w0) poRX8_g pcRX8_g rfl (by decide +kernel)
set_option maxRecDepth 20000 in
theorem oX8_rowRefusal : pm_okM pm_P iX8_rowRefusal := rows_F (kd := 1) (plainFor_of_name pnRX8) rfl (abX8_rowRefusal w0) poRX8_g pcRX8_g rfl (by decide +kernel)
set_option maxRecDepth 20000 in
theorem oX8_rows : pm_okM pm_P iX8_rows := rows_F (kd := 1) (plainFor_of_name pnRX8) rfl (abX8_rows w0) poRX8_g pcRX8_g rfl (by decide +kernel)
set_option maxRecDepth 20000 in
theorem oX8_runs : pm_okM pm_P iX8_runs := rows_F (kd := 1) (plainFor_of_name pnRX8) rfl (abX8_runs w0) poRX8_g pcRX8_g rfl (by decide +kernel)
set_option maxRecDepth 20000 in
theorem oX8_searchTree : pm_okM pm_P iX8_searchTree := rows_F (kd := 1) (plainFor_of_name pnRX8) rfl (abX8_searchTree w0) poRX8_g pcRX8_g rfl (by decide +kernel)
set_option maxRecDepth 20000 in
theorem oX8_setWeight : pm_okM pm_P iX8_setWeight := rows_F (kd := 3) (plainFor_of_name pnRX8) rfl (abX8_setWeight w0) poRX8_g pcRX8_g rfl (by decide +kernel)
theorem oX8_share_0 : pm_okF cX8_share RX8 9 false 0 (s_al 0 1) := k_aload_n (dk_aload_n_0 (by decide +kernel : bk1 cX8_share 0 42 = true)) rfl
theorem oX8_share_1 : pm_okF cX8_share RX8 9 false 1 (s_il 1 2) := k_iload_n (dk_iload_n_1 (by decide +kernel : bk1 cX8_share 1 27 = true)) rfl
theorem oX8_share_2 : ∃ I : pm_M, pm_at pm_P 114 = some I ∧ I.2.2.2.2.2.1 = 0 ∧ I.2.2.2.2.2.2.1 = 0 ∧ pm_okC cX8_share RX8 9 false 2 I.1 I.2.1 I.2.2.1 I.2.2.2.1 2 (some 8) 0 0 := ⟨iX8_hasCar, aiX8_hasCar, rfl, rfl, k_callV (n := 1) (T := TX8) (N := 12) (dk_invokevirtual (by decide +kernel : bk3 cX8_share 2 182 109 = true)) rfl (wk1 wb_2_238) (wk14 wb_2_222) (wk0 wb_2_238) (wk13 wb_0_0) (wk0 wb_1_1) (by decide +kernel) (by decide) (by decide)⟩
theorem oX8_share_5 : pm_okF cX8_share RX8 9 false 5 (s_if (fun x => decide (x = 0)) 15 8) := k_if_eq (dk_ifCond_eq (by decide +kernel : bkS cX8_share 5 153 10 = true)) (by decide)
theorem oX8_share_8 : pm_okF cX8_share RX8 9 false 8 (s_il 2 9) := k_iload_n (dk_iload_n_2 (by decide +kernel : bk1 cX8_share 8 28 = true)) rfl
theorem oX8_share_9 : ∃ I : pm_M, pm_at pm_P 129 = some I ∧ I.2.2.2.2.2.1 = 0 ∧ I.2.2.2.2.2.2.1 = 0 ∧ pm_okC cX8_share RX8 9 false 9 I.1 I.2.1 I.2.2.1 I.2.2.2.1 1 (none) 0 0 := ⟨iX8_isTerm, aiX8_isTerm, rfl, rfl, k_callS (n := 1) (dk_invokestatic (by decide +kernel : bk3 cX8_share 9 184 113 = true)) (wk2 wb_3_0) (wk0 wb_3_0) (wk1 wb_3_0) (wk0 wb_1_1) (by decide +kernel) (by decide)⟩
theorem oX8_share_12 : pm_okF cX8_share RX8 9 false 12 (s_if (fun x => decide (¬ x = 0)) 19 15) := k_if_ne (dk_ifCond_ne (by decide +kernel : bkS cX8_share 12 154 7 = true)) (by decide)
theorem oX8_share_15 : pm_okF cX8_share RX8 9 false 15 (s_const (.int (-1000000)) 18) := k_ldcw (dk_ldc_w (by decide +kernel : bk3 cX8_share 15 19 331 = true)) (wk3 wb_5_16)
theorem oX8_share_18 : pm_okR cX8_share (some .int) 18 1 := ⟨rfl, (dk_ireturn (by decide +kernel : bk1 cX8_share 18 172 = true))⟩
theorem oX8_share_19 : pm_okF cX8_share RX8 9 false 19 (s_al 0 20) := k_aload_n (dk_aload_n_0 (by decide +kernel : bk1 cX8_share 19 42 = true)) rfl
theorem oX8_share_20 : pm_okF cX8_share RX8 9 false 20 (s_getf 8 9 23) := k_getf (C := RX8) (T := TX8) (N := 12) rfl inX8 (by decide) (wk9 wb_2_26) (dk_getfield (by decide +kernel : bk3 cX8_share 20 180 71 = true))
theorem oX8_share_23 : pm_okF cX8_share RX8 9 false 23 (s_al 0 24) := k_aload_n (dk_aload_n_0 (by decide +kernel : bk1 cX8_share 23 42 = true)) rfl
theorem oX8_share_24 : pm_okF cX8_share RX8 9 false 24 (s_getf 8 2 27) := k_getf (C := RX8) (T := TX8) (N := 12) rfl inX8 (by decide) (wk2 wb_2_26) (dk_getfield (by decide +kernel : bk3 cX8_share 24 180 28 = true))
theorem oX8_share_27 : pm_okF cX8_share RX8 9 false 27 (s_getf 5 8 30) := k_getf (C := RX5) (T := TX5) (N := 15) rfl inX5 (by decide) (wk2 wb_1_74) (dk_getfield (by decide +kernel : bk3 cX8_share 27 180 116 = true))
theorem oX8_share_30 : pm_okF cX8_share RX8 9 false 30 (s_al 0 31) := k_aload_n (dk_aload_n_0 (by decide +kernel : bk1 cX8_share 30 42 = true)) rfl
theorem oX8_share_31 : pm_okF cX8_share RX8 9 false 31 (s_getf 8 2 34) := k_getf (C := RX8) (T := TX8) (N := 12) rfl inX8 (by decide) (wk2 wb_2_26) (dk_getfield (by decide +kernel : bk3 cX8_share 31 180 28 = true))
theorem oX8_share_34 : pm_okF cX8_share RX8 9 false 34 (s_getf 5 4 37) := k_getf (C := RX5) (T := TX5) (N := 15) rfl inX5 (by decide) (wk11 wb_1_58) (dk_getfield (by decide +kernel : bk3 cX8_share 34 180 148 = true))
theorem oX8_share_37 : pm_okF cX8_share RX8 9 false 37 (s_al 0 38) := k_aload_n (dk_aload_n_0 (by decide +kernel : bk1 cX8_share 37 42 = true)) rfl
theorem oX8_share_38 : pm_okF cX8_share RX8 9 false 38 (s_getf 8 2 41) := k_getf (C := RX8) (T := TX8) (N := 12) rfl inX8 (by decide) (wk2 wb_2_26) (dk_getfield (by decide +kernel : bk3 cX8_share 38 180 28 = true))
theorem oX8_share_41 : pm_okF cX8_share RX8 9 false 41 (s_getf 5 0 44) := k_getf (C := RX5) (T := TX5) (N := 15) rfl inX5 (by decide) (wk15 wb_1_42) (dk_getfield (by decide +kernel : bk3 cX8_share 41 180 139 = true))
theorem oX8_share_44 : pm_okF cX8_share RX8 9 false 44 (s_al 0 45) := k_aload_n (dk_aload_n_0 (by decide +kernel : bk1 cX8_share 44 42 = true)) rfl
theorem oX8_share_45 : pm_okF cX8_share RX8 9 false 45 (s_getf 8 2 48) := k_getf (C := RX8) (T := TX8) (N := 12) rfl inX8 (by decide) (wk2 wb_2_26) (dk_getfield (by decide +kernel : bk3 cX8_share 45 180 28 = true))
theorem oX8_share_48 : pm_okF cX8_share RX8 9 false 48 (s_getf 5 1 51) := k_getf (C := RX5) (T := TX5) (N := 15) rfl inX5 (by decide) (wk2 wb_1_58) (dk_getfield (by decide +kernel : bk3 cX8_share 48 180 308 = true))
theorem oX8_share_51 : ∃ I : pm_M, pm_at pm_P 42 = some I ∧ I.2.2.2.2.2.1 = 0 ∧ I.2.2.2.2.2.2.1 = 0 ∧ pm_okC cX8_share RX8 9 false 51 I.1 I.2.1 I.2.2.1 I.2.2.2.1 5 (some 3) 0 0 := ⟨iX3_fill, aiX3_fill, rfl, rfl, k_callV (n := 4) (T := TX3) (N := 2) (dk_invokevirtual (by decide +kernel : bk3 cX8_share 51 182 332 = true)) rfl (wk7 wb_5_16) (wk4 wb_5_16) (wk5 wb_5_16) (wk6 wb_5_16) (wk8 wb_1_1) (by decide +kernel) (by decide) (by decide)⟩
theorem oX8_share_54 : pm_okF cX8_share RX8 9 false 54 (s_const (.long 0) 55) := k_lconst (dk_lconst_0 (by decide +kernel : bk1 cX8_share 54 9 = true)) (by decide)
theorem oX8_share_55 : pm_okF cX8_share RX8 9 false 55 (s_ls 3 56) := k_lstore_n (dk_lstore_n_3 (by decide +kernel : bk1 cX8_share 55 66 = true)) rfl (by decide)
theorem oX8_share_56 : pm_okF cX8_share RX8 9 false 56 (s_const (.int 0) 57) := k_iconst (dk_iconst_0 (by decide +kernel : bk1 cX8_share 56 3 = true)) (by decide)
theorem oX8_share_57 : pm_okF cX8_share RX8 9 false 57 (s_is 5 59) := k_istore (dk_istore (by decide +kernel : bk2 cX8_share 57 54 5 = true)) (by decide)
theorem oX8_share_59 : pm_okF cX8_share RX8 9 false 59 (s_il 5 61) := k_iload (dk_iload (by decide +kernel : bk2 cX8_share 59 21 5 = true))
theorem oX8_share_61 : pm_okF cX8_share RX8 9 false 61 (s_al 0 62) := k_aload_n (dk_aload_n_0 (by decide +kernel : bk1 cX8_share 61 42 = true)) rfl
theorem oX8_share_62 : ∃ I : pm_M, pm_at pm_P 103 = some I ∧ I.2.2.2.2.2.1 = 0 ∧ I.2.2.2.2.2.2.1 = 0 ∧ pm_okC cX8_share RX8 9 false 62 I.1 I.2.1 I.2.2.1 I.2.2.2.1 1 (some 8) 0 0 := ⟨iX8_everyCar, aiX8_everyCar, rfl, rfl, k_callV (n := 0) (T := TX8) (N := 12) (dk_invokevirtual (by decide +kernel : bk3 cX8_share 62 182 311 = true)) rfl (wk1 wb_3_13) (wk2 wb_3_9) (wk0 wb_3_13) (wk15 wb_0_0) (wk0 wb_1_1) (by decide +kernel) (by decide) (by decide)⟩
theorem oX8_share_65 : pm_okF cX8_share RX8 9 false 65 (s_icmp (fun x y => decide (y < x)) 149 68) := k_icmp_gt (dk_if_icmp_gt (by decide +kernel : bkS cX8_share 65 163 84 = true)) (by decide)
theorem oX8_share_68 : pm_okF cX8_share RX8 9 false 68 (s_il 5 70) := k_iload (dk_iload (by decide +kernel : bk2 cX8_share 68 21 5 = true))
theorem oX8_share_70 : pm_okF cX8_share RX8 9 false 70 (s_il 1 71) := k_iload_n (dk_iload_n_1 (by decide +kernel : bk1 cX8_share 70 27 = true)) rfl
theorem oX8_share_71 : pm_okF cX8_share RX8 9 false 71 (s_bin (fun x y => x >>> (y &&& 31)) 72) := k_ishr (dk_ishr (by decide +kernel : bk1 cX8_share 71 122 = true))
theorem oX8_share_72 : pm_okF cX8_share RX8 9 false 72 (s_const (.int 1) 73) := k_iconst (dk_iconst_1 (by decide +kernel : bk1 cX8_share 72 4 = true)) (by decide)
theorem oX8_share_73 : pm_okF cX8_share RX8 9 false 73 (s_bin (fun x y => x &&& y) 74) := k_iand (dk_iand (by decide +kernel : bk1 cX8_share 73 126 = true))
theorem oX8_share_74 : pm_okF cX8_share RX8 9 false 74 (s_if (fun x => decide (¬ x = 0)) 143 77) := k_if_ne (dk_ifCond_ne (by decide +kernel : bkS cX8_share 74 154 69 = true)) (by decide)
theorem oX8_share_77 : pm_okF cX8_share RX8 9 false 77 (s_il 5 79) := k_iload (dk_iload (by decide +kernel : bk2 cX8_share 77 21 5 = true))
theorem oX8_share_79 : ∃ I : pm_M, pm_at pm_P 7 = some I ∧ I.2.2.2.2.2.1 = 0 ∧ I.2.2.2.2.2.2.1 = 0 ∧ pm_okC cX8_share RX8 9 false 79 I.1 I.2.1 I.2.2.1 I.2.2.2.1 1 (none) 0 0 := ⟨iJ6_bitCount_0f7a4, aiJ6_bitCount_0f7a4, rfl, rfl, k_callS (n := 1) (dk_invokestatic (by decide +kernel : bk3 cX8_share 79 184 154 = true)) (wk4 wb_3_82) (wk2 wb_3_82) (wk3 wb_3_82) (wk1 wb_1_15) (by decide +kernel) (by decide)⟩
theorem oX8_share_82 : pm_okF cX8_share RX8 9 false 82 (s_is 6 84) := k_istore (dk_istore (by decide +kernel : bk2 cX8_share 82 54 6 = true)) (by decide)
theorem oX8_share_84 : pm_okF cX8_share RX8 9 false 84 (s_const (.retAddr 1) 87) := k_gets_fac (wk8 wb_4_80) (dk_getstatic (by decide +kernel : bk3 cX8_share 84 178 241 = true))
theorem oX8_share_87 : pm_okF cX8_share RX8 9 false 87 (s_il 6 89) := k_iload (dk_iload (by decide +kernel : bk2 cX8_share 87 21 6 = true))
theorem oX8_share_89 : pm_okF cX8_share RX8 9 false 89 (s_tald 90) := k_tald (dk_iaload (by decide +kernel : bk1 cX8_share 89 46 = true))
theorem oX8_share_90 : pm_okF cX8_share RX8 9 false 90 (s_i2l 91) := k_i2l (dk_i2l (by decide +kernel : bk1 cX8_share 90 133 = true))
theorem oX8_share_91 : pm_okF cX8_share RX8 9 false 91 (s_const (.retAddr 1) 94) := k_gets_fac (wk8 wb_4_80) (dk_getstatic (by decide +kernel : bk3 cX8_share 91 178 241 = true))
theorem oX8_share_94 : pm_okF cX8_share RX8 9 false 94 (s_al 0 95) := k_aload_n (dk_aload_n_0 (by decide +kernel : bk1 cX8_share 94 42 = true)) rfl
theorem oX8_share_95 : pm_okF cX8_share RX8 9 false 95 (s_getf 8 2 98) := k_getf (C := RX8) (T := TX8) (N := 12) rfl inX8 (by decide) (wk2 wb_2_26) (dk_getfield (by decide +kernel : bk3 cX8_share 95 180 28 = true))
theorem oX8_share_98 : pm_okF cX8_share RX8 9 false 98 (s_getf 5 4 101) := k_getf (C := RX5) (T := TX5) (N := 15) rfl inX5 (by decide) (wk11 wb_1_58) (dk_getfield (by decide +kernel : bk3 cX8_share 98 180 148 = true))
theorem oX8_share_101 : pm_okF cX8_share RX8 9 false 101 (s_const (.int 1) 102) := k_iconst (dk_iconst_1 (by decide +kernel : bk1 cX8_share 101 4 = true)) (by decide)
theorem oX8_share_102 : pm_okF cX8_share RX8 9 false 102 (s_bin (fun x y => x - y) 103) := k_isub (dk_isub (by decide +kernel : bk1 cX8_share 102 100 = true))
theorem oX8_share_103 : pm_okF cX8_share RX8 9 false 103 (s_il 6 105) := k_iload (dk_iload (by decide +kernel : bk2 cX8_share 103 21 6 = true))
theorem oX8_share_105 : pm_okF cX8_share RX8 9 false 105 (s_bin (fun x y => x - y) 106) := k_isub (dk_isub (by decide +kernel : bk1 cX8_share 105 100 = true))
theorem oX8_share_106 : pm_okF cX8_share RX8 9 false 106 (s_tald 107) := k_tald (dk_iaload (by decide +kernel : bk1 cX8_share 106 46 = true))
theorem oX8_share_107 : pm_okF cX8_share RX8 9 false 107 (s_i2l 108) := k_i2l (dk_i2l (by decide +kernel : bk1 cX8_share 107 133 = true))
theorem oX8_share_108 : pm_okF cX8_share RX8 9 false 108 (s_lbin (fun x y => x * y) 109) := k_lmul (dk_lmul (by decide +kernel : bk1 cX8_share 108 105 = true))
theorem oX8_share_109 : pm_okF cX8_share RX8 9 false 109 (s_ls 7 111) := k_lstore (dk_lstore (by decide +kernel : bk2 cX8_share 109 55 7 = true)) (by decide)
theorem oX8_share_111 : pm_okF cX8_share RX8 9 false 111 (s_ll 3 112) := k_lload_n (dk_lload_n_3 (by decide +kernel : bk1 cX8_share 111 33 = true)) rfl
theorem oX8_share_112 : pm_okF cX8_share RX8 9 false 112 (s_ll 7 114) := k_lload (dk_lload (by decide +kernel : bk2 cX8_share 112 22 7 = true))
theorem oX8_share_114 : pm_okF cX8_share RX8 9 false 114 (s_al 0 115) := k_aload_n (dk_aload_n_0 (by decide +kernel : bk1 cX8_share 114 42 = true)) rfl
theorem oX8_share_115 : pm_okF cX8_share RX8 9 false 115 (s_getf 8 9 118) := k_getf (C := RX8) (T := TX8) (N := 12) rfl inX8 (by decide) (wk9 wb_2_26) (dk_getfield (by decide +kernel : bk3 cX8_share 115 180 71 = true))
theorem oX8_share_118 : pm_okF cX8_share RX8 9 false 118 (s_getf 3 1 121) := k_getf (C := RX3) (T := TX3) (N := 2) rfl inX3 (by decide) (wk11 wb_2_9) (dk_getfield (by decide +kernel : bk3 cX8_share 118 180 335 = true))
theorem oX8_share_121 : pm_okF cX8_share RX8 9 false 121 (s_il 5 123) := k_iload (dk_iload (by decide +kernel : bk2 cX8_share 121 21 5 = true))
theorem oX8_share_123 : pm_okF cX8_share RX8 9 false 123 (s_const (.int 1) 124) := k_iconst (dk_iconst_1 (by decide +kernel : bk1 cX8_share 123 4 = true)) (by decide)
theorem oX8_share_124 : pm_okF cX8_share RX8 9 false 124 (s_il 1 125) := k_iload_n (dk_iload_n_1 (by decide +kernel : bk1 cX8_share 124 27 = true)) rfl
theorem oX8_share_125 : pm_okF cX8_share RX8 9 false 125 (s_bin (fun x y => x <<< (y &&& 31)) 126) := k_ishl (dk_ishl (by decide +kernel : bk1 cX8_share 125 120 = true))
theorem oX8_share_126 : pm_okF cX8_share RX8 9 false 126 (s_bin (fun x y => x ||| y) 127) := k_ior (dk_ior (by decide +kernel : bk1 cX8_share 126 128 = true))
theorem oX8_share_127 : pm_okF cX8_share RX8 9 false 127 (s_iald 128) := k_iald (dk_iaload (by decide +kernel : bk1 cX8_share 127 46 = true))
theorem oX8_share_128 : pm_okF cX8_share RX8 9 false 128 (s_al 0 129) := k_aload_n (dk_aload_n_0 (by decide +kernel : bk1 cX8_share 128 42 = true)) rfl
theorem oX8_share_129 : pm_okF cX8_share RX8 9 false 129 (s_getf 8 9 132) := k_getf (C := RX8) (T := TX8) (N := 12) rfl inX8 (by decide) (wk9 wb_2_26) (dk_getfield (by decide +kernel : bk3 cX8_share 129 180 71 = true))
theorem oX8_share_132 : pm_okF cX8_share RX8 9 false 132 (s_getf 3 1 135) := k_getf (C := RX3) (T := TX3) (N := 2) rfl inX3 (by decide) (wk11 wb_2_9) (dk_getfield (by decide +kernel : bk3 cX8_share 132 180 335 = true))
theorem oX8_share_135 : pm_okF cX8_share RX8 9 false 135 (s_il 5 137) := k_iload (dk_iload (by decide +kernel : bk2 cX8_share 135 21 5 = true))
theorem oX8_share_137 : pm_okF cX8_share RX8 9 false 137 (s_iald 138) := k_iald (dk_iaload (by decide +kernel : bk1 cX8_share 137 46 = true))
theorem oX8_share_138 : pm_okF cX8_share RX8 9 false 138 (s_bin (fun x y => x - y) 139) := k_isub (dk_isub (by decide +kernel : bk1 cX8_share 138 100 = true))
theorem oX8_share_139 : pm_okF cX8_share RX8 9 false 139 (s_i2l 140) := k_i2l (dk_i2l (by decide +kernel : bk1 cX8_share 139 133 = true))
theorem oX8_share_140 : pm_okF cX8_share RX8 9 false 140 (s_lbin (fun x y => x * y) 141) := k_lmul (dk_lmul (by decide +kernel : bk1 cX8_share 140 105 = true))
theorem oX8_share_141 : pm_okF cX8_share RX8 9 false 141 (s_lbin (fun x y => x + y) 142) := k_ladd (dk_ladd (by decide +kernel : bk1 cX8_share 141 97 = true))
theorem oX8_share_142 : pm_okF cX8_share RX8 9 false 142 (s_ls 3 143) := k_lstore_n (dk_lstore_n_3 (by decide +kernel : bk1 cX8_share 142 66 = true)) rfl (by decide)
theorem oX8_share_143 : pm_okF cX8_share RX8 9 false 143 (s_inc 5 1 146) := k_iinc (dk_iinc (by decide +kernel : bkI cX8_share 143 132 5 1 = true)) (by decide) (by decide)
theorem oX8_share_146 : pm_okF cX8_share RX8 9 false 146 (s_goto 59) := k_goto (dk_goto (by decide +kernel : bkS cX8_share 146 167 (-87) = true)) (by decide)
theorem oX8_share_149 : pm_okF cX8_share RX8 9 false 149 (s_ll 3 150) := k_lload_n (dk_lload_n_3 (by decide +kernel : bk1 cX8_share 149 33 = true)) rfl
theorem oX8_share_150 : pm_okF cX8_share RX8 9 false 150 (s_const (.retAddr 1) 153) := k_gets_fac (wk8 wb_4_80) (dk_getstatic (by decide +kernel : bk3 cX8_share 150 178 241 = true))
theorem oX8_share_153 : pm_okF cX8_share RX8 9 false 153 (s_al 0 154) := k_aload_n (dk_aload_n_0 (by decide +kernel : bk1 cX8_share 153 42 = true)) rfl
theorem oX8_share_154 : pm_okF cX8_share RX8 9 false 154 (s_getf 8 2 157) := k_getf (C := RX8) (T := TX8) (N := 12) rfl inX8 (by decide) (wk2 wb_2_26) (dk_getfield (by decide +kernel : bk3 cX8_share 154 180 28 = true))
theorem oX8_share_157 : pm_okF cX8_share RX8 9 false 157 (s_getf 5 4 160) := k_getf (C := RX5) (T := TX5) (N := 15) rfl inX5 (by decide) (wk11 wb_1_58) (dk_getfield (by decide +kernel : bk3 cX8_share 157 180 148 = true))
theorem oX8_share_160 : pm_okF cX8_share RX8 9 false 160 (s_tald 161) := k_tald (dk_iaload (by decide +kernel : bk1 cX8_share 160 46 = true))
theorem oX8_share_161 : pm_okF cX8_share RX8 9 false 161 (s_i2l 162) := k_i2l (dk_i2l (by decide +kernel : bk1 cX8_share 161 133 = true))
theorem oX8_share_162 : pm_okF cX8_share RX8 9 false 162 (s_il 2 163) := k_iload_n (dk_iload_n_2 (by decide +kernel : bk1 cX8_share 162 28 = true)) rfl
theorem oX8_share_163 : ∃ I : pm_M, pm_at pm_P 190 = some I ∧ I.2.2.2.2.2.1 = 0 ∧ I.2.2.2.2.2.2.1 = 0 ∧ pm_okC cX8_share RX8 9 false 163 I.1 I.2.1 I.2.2.1 I.2.2.2.1 3 (none) 0 0 := ⟨iX8_term, aiX8_term, rfl, rfl, k_callS (n := 3) (dk_invokestatic (by decide +kernel : bk3 cX8_share 163 184 337 = true)) (wk3 wb_5_26) (wk1 wb_5_26) (wk2 wb_5_26) (wk0 wb_1_1) (by decide +kernel) (by decide)⟩
theorem oX8_share_166 : pm_okF cX8_share RX8 9 false 166 (s_l2i 167) := k_l2i (dk_l2i (by decide +kernel : bk1 cX8_share 166 136 = true))
theorem oX8_share_167 : pm_okR cX8_share (some .int) 167 1 := ⟨rfl, (dk_ireturn (by decide +kernel : bk1 cX8_share 167 172 = true))⟩
set_option maxRecDepth 20000 in
theorem oX8_share : pm_okM pm_P iX8_share := ⟨(by decide +kernel), (fun h => by cases h), List.forall_mem_cons.mpr ⟨oX8_share_0, List.forall_mem_cons.mpr ⟨oX8_share_1, List.forall_mem_cons.mpr ⟨oX8_share_2, List.forall_mem_cons.mpr ⟨oX8_share_5, List.forall_mem_cons.mpr ⟨oX8_share_8, List.forall_mem_cons.mpr ⟨oX8_share_9, List.forall_mem_cons.mpr ⟨oX8_share_12, List.forall_mem_cons.mpr ⟨oX8_share_15, List.forall_mem_cons.mpr ⟨oX8_share_18, List.forall_mem_cons.mpr ⟨oX8_share_19, List.forall_mem_cons.mpr ⟨oX8_share_20, List.forall_mem_cons.mpr ⟨oX8_share_23, List.forall_mem_cons.mpr ⟨oX8_share_24, List.forall_mem_cons.mpr ⟨oX8_share_27, List.forall_mem_cons.mpr ⟨oX8_share_30, List.forall_mem_cons.mpr ⟨oX8_share_31, List.forall_mem_cons.mpr ⟨oX8_share_34, List.forall_mem_cons.mpr ⟨oX8_share_37, List.forall_mem_cons.mpr ⟨oX8_share_38, List.forall_mem_cons.mpr ⟨oX8_share_41, List.forall_mem_cons.mpr ⟨oX8_share_44, List.forall_mem_cons.mpr ⟨oX8_share_45, List.forall_mem_cons.mpr ⟨oX8_share_48, List.forall_mem_cons.mpr ⟨oX8_share_51, List.forall_mem_cons.mpr ⟨oX8_share_54, List.forall_mem_cons.mpr ⟨oX8_share_55, List.forall_mem_cons.mpr ⟨oX8_share_56, List.forall_mem_cons.mpr ⟨oX8_share_57, List.forall_mem_cons.mpr ⟨oX8_share_59, List.forall_mem_cons.mpr ⟨oX8_share_61, List.forall_mem_cons.mpr ⟨oX8_share_62, List.forall_mem_cons.mpr ⟨oX8_share_65, List.forall_mem_cons.mpr ⟨oX8_share_68, List.forall_mem_cons.mpr ⟨oX8_share_70, List.forall_mem_cons.mpr ⟨oX8_share_71, List.forall_mem_cons.mpr ⟨oX8_share_72, List.forall_mem_cons.mpr ⟨oX8_share_73, List.forall_mem_cons.mpr ⟨oX8_share_74, List.forall_mem_cons.mpr ⟨oX8_share_77, List.forall_mem_cons.mpr ⟨oX8_share_79, List.forall_mem_cons.mpr ⟨oX8_share_82, List.forall_mem_cons.mpr ⟨oX8_share_84, List.forall_mem_cons.mpr ⟨oX8_share_87, List.forall_mem_cons.mpr ⟨oX8_share_89, List.forall_mem_cons.mpr ⟨oX8_share_90, List.forall_mem_cons.mpr ⟨oX8_share_91, List.forall_mem_cons.mpr ⟨oX8_share_94, List.forall_mem_cons.mpr ⟨oX8_share_95, List.forall_mem_cons.mpr ⟨oX8_share_98, List.forall_mem_cons.mpr ⟨oX8_share_101, List.forall_mem_cons.mpr ⟨oX8_share_102, List.forall_mem_cons.mpr ⟨oX8_share_103, List.forall_mem_cons.mpr ⟨oX8_share_105, List.forall_mem_cons.mpr ⟨oX8_share_106, List.forall_mem_cons.mpr ⟨oX8_share_107, List.forall_mem_cons.mpr ⟨oX8_share_108, List.forall_mem_cons.mpr ⟨oX8_share_109, List.forall_mem_cons.mpr ⟨oX8_share_111, List.forall_mem_cons.mpr ⟨oX8_share_112, List.forall_mem_cons.mpr ⟨oX8_share_114, List.forall_mem_cons.mpr ⟨oX8_share_115, List.forall_mem_cons.mpr ⟨oX8_share_118, List.forall_mem_cons.mpr ⟨oX8_share_121, List.forall_mem_cons.mpr ⟨oX8_share_123, List.forall_mem_cons.mpr ⟨oX8_share_124, List.forall_mem_cons.mpr ⟨oX8_share_125, List.forall_mem_cons.mpr ⟨oX8_share_126, List.forall_mem_cons.mpr ⟨oX8_share_127, List.forall_mem_cons.mpr ⟨oX8_share_128, List.forall_mem_cons.mpr ⟨oX8_share_129, List.forall_mem_cons.mpr ⟨oX8_share_132, List.forall_mem_cons.mpr ⟨oX8_share_135, List.forall_mem_cons.mpr ⟨oX8_share_137, List.forall_mem_cons.mpr ⟨oX8_share_138, List.forall_mem_cons.mpr ⟨oX8_share_139, List.forall_mem_cons.mpr ⟨oX8_share_140, List.forall_mem_cons.mpr ⟨oX8_share_141, List.forall_mem_cons.mpr ⟨oX8_share_142, List.forall_mem_cons.mpr ⟨oX8_share_143, List.forall_mem_cons.mpr ⟨oX8_share_146, List.forall_mem_cons.mpr ⟨oX8_share_149, List.forall_mem_cons.mpr ⟨oX8_share_150, List.forall_mem_cons.mpr ⟨oX8_share_153, List.forall_mem_cons.mpr ⟨oX8_share_154, List.forall_mem_cons.mpr ⟨oX8_share_157, List.forall_mem_cons.mpr ⟨oX8_share_160, List.forall_mem_cons.mpr ⟨oX8_share_161, List.forall_mem_cons.mpr ⟨oX8_share_162, List.forall_mem_cons.mpr ⟨oX8_share_163, List.forall_mem_cons.mpr ⟨oX8_share_166, List.forall_mem_cons.mpr ⟨oX8_share_167, fun _ h => absurd h List.not_mem_nil⟩⟩⟩⟩⟩⟩⟩⟩⟩⟩⟩⟩⟩⟩⟩⟩⟩⟩⟩⟩⟩⟩⟩⟩⟩⟩⟩⟩⟩⟩⟩⟩⟩⟩⟩⟩⟩⟩⟩⟩⟩⟩⟩⟩⟩⟩⟩⟩⟩⟩⟩⟩⟩⟩⟩⟩⟩⟩⟩⟩⟩⟩⟩⟩⟩⟩⟩⟩⟩⟩⟩⟩⟩⟩⟩⟩⟩⟩⟩⟩⟩⟩⟩⟩⟩⟩⟩⟩⟩⟩⟩⟩
end
section
/-! the rows are sound (written by tab2.py) -/
set_option maxRecDepth 20000 in
theorem oX8_shifted : pm_okM pm_P iX8_shifted := rows_F (kd := 1) (plainFor_of_name pnRX8) rfl (abX8_shifted w0) poRX8_g pcRX8_g rfl (by decide +kernel)
set_option maxRecDepth 20000 in
theorem oX8_shifts : pm_okM pm_P iX8_shifts := rows_F (kd := 1) (plainFor_of_name pnRX8) rfl (abX8_shifts w0) poRX8_g pcRX8_g rfl (by decide +kernel)
set_option maxRecDepth 20000 in
theorem oX8_sightRefusal : pm_okM pm_P iX8_sightRefusal := rows_F (kd := 1) (plainFor_of_name pnRX8) rfl (abX8_sightRefusal w0) poRX8_g pcRX8_g rfl (by decide +kernel)
set_option maxRecDepth 20000 in
theorem oX8_slotsWithRows : pm_okM pm_P iX8_slotsWithRows := rows_F (kd := 1) (plainFor_of_name pnRX8) rfl (abX8_slotsWithRows w0) poRX8_g pcRX8_g rfl (by decide +kernel)
set_option maxRecDepth 20000 in
theorem oX8_sorted : pm_okM pm_P iX8_sorted := rows_F (kd := 1) (plainFor_of_name pnRX8) rfl (abX8_sorted w0) poRX8_g pcRX8_g rfl (by decide +kernel)
set_option maxRecDepth 20000 in
theorem oX8_steps : pm_okM pm_P iX8_steps := rows_F (kd := 1) (plainFor_of_name pnRX8) rfl (abX8_steps w0) poRX8_g pcRX8_g rfl (by decide +kernel)
set_option maxRecDepth 20000 in
theorem oX8_stepsInLot : pm_okM pm_P iX8_stepsInLot := rows_F (kd := 1) (plainFor_of_name pnRX8) rfl (abX8_stepsInLot w0) poRX8_g pcRX8_g rfl (by decide +kernel)
set_option maxRecDepth 20000 in
theorem oX8_street : pm_okM pm_P iX8_street := rows_F (kd := 1) (plainFor_of_name pnRX8) rfl (abX8_street w0) poRX8_g pcRX8_g rfl (by decide +kernel)
set_option maxRecDepth 20000 in
theorem oX8_sum : pm_okM pm_P iX8_sum := rows_F (kd := 1) (plainFor_of_name pnRX8) rfl (abX8_sum w0) poRX8_g pcRX8_g rfl (by decide +kernel)
set_option maxRecDepth 20000 in
theorem oX8_swap : pm_okM pm_P iX8_swap := rows_F (kd := 1) (plainFor_of_name pnRX8) rfl (abX8_swap w0) poRX8_g pcRX8_g rfl (by decide +kernel)
set_option maxRecDepth 20000 in
theorem oX8_takenUpTo : pm_okM pm_P iX8_takenUpTo := rows_F (kd := 1) (plainFor_of_name pnRX8) rfl (abX8_takenUpTo w0) poRX8_g pcRX8_g rfl (by decide +kernel)
theorem oX8_tally_0 : pm_okF cX8_tally RX8 3 false 0 (s_al 0 1) := k_aload_n (dk_aload_n_0 (by decide +kernel : bk1 cX8_tally 0 42 = true)) rfl
theorem oX8_tally_1 : pm_okF cX8_tally RX8 3 false 1 (s_il 1 2) := k_iload_n (dk_iload_n_1 (by decide +kernel : bk1 cX8_tally 1 27 = true)) rfl
theorem oX8_tally_2 : ∃ I : pm_M, pm_at pm_P 128 = some I ∧ I.2.2.2.2.2.1 = 0 ∧ I.2.2.2.2.2.2.1 = 0 ∧ pm_okC cX8_tally RX8 3 false 2 I.1 I.2.1 I.2.2.1 I.2.2.2.1 2 (some 8) 0 0 := ⟨iX8_isTallied, aiX8_isTallied, rfl, rfl, k_callV (n := 1) (T := TX8) (N := 12) (dk_invokevirtual (by decide +kernel : bk3 cX8_tally 2 182 232 = true)) rfl (wk1 wb_4_65) (wk10 wb_4_53) (wk0 wb_4_65) (wk5 wb_0_32) (wk0 wb_1_1) (by decide +kernel) (by decide) (by decide)⟩
theorem oX8_tally_5 : pm_okF cX8_tally RX8 3 false 5 (s_if (fun x => decide (x = 0)) 18 8) := k_if_eq (dk_ifCond_eq (by decide +kernel : bkS cX8_tally 5 153 13 = true)) (by decide)
theorem oX8_tally_8 : pm_okF cX8_tally RX8 3 false 8 (s_il 2 9) := k_iload_n (dk_iload_n_2 (by decide +kernel : bk1 cX8_tally 8 28 = true)) rfl
theorem oX8_tally_9 : pm_okF cX8_tally RX8 3 false 9 (s_if (fun x => decide (x < 0)) 18 12) := k_if_lt (dk_ifCond_lt (by decide +kernel : bkS cX8_tally 9 155 9 = true)) (by decide)
theorem oX8_tally_12 : pm_okF cX8_tally RX8 3 false 12 (s_il 2 13) := k_iload_n (dk_iload_n_2 (by decide +kernel : bk1 cX8_tally 12 28 = true)) rfl
theorem oX8_tally_13 : pm_okF cX8_tally RX8 3 false 13 (s_const (.int 20) 15) := k_bipush (dk_bipush (by decide +kernel : bkB cX8_tally 13 16 20 = true)) (by decide)
theorem oX8_tally_15 : pm_okF cX8_tally RX8 3 false 15 (s_icmp (fun x y => decide (x ≤ y)) 21 18) := k_icmp_le (dk_if_icmp_le (by decide +kernel : bkS cX8_tally 15 164 6 = true)) (by decide)
theorem oX8_tally_18 : pm_okF cX8_tally RX8 3 false 18 (s_const (.int (-2)) 20) := k_bipush (dk_bipush (by decide +kernel : bkB cX8_tally 18 16 (-2) = true)) (by decide)
theorem oX8_tally_20 : pm_okR cX8_tally (some .int) 20 1 := ⟨rfl, (dk_ireturn (by decide +kernel : bk1 cX8_tally 20 172 = true))⟩
theorem oX8_tally_21 : pm_okF cX8_tally RX8 3 false 21 (s_il 2 22) := k_iload_n (dk_iload_n_2 (by decide +kernel : bk1 cX8_tally 21 28 = true)) rfl
theorem oX8_tally_22 : pm_okF cX8_tally RX8 3 false 22 (s_const (.int 11) 24) := k_bipush (dk_bipush (by decide +kernel : bkB cX8_tally 22 16 11 = true)) (by decide)
theorem oX8_tally_24 : pm_okF cX8_tally RX8 3 false 24 (s_icmp (fun x y => decide (y ≤ x)) 42 27) := k_icmp_ge (dk_if_icmp_ge (by decide +kernel : bkS cX8_tally 24 162 18 = true)) (by decide)
theorem oX8_tally_27 : pm_okF cX8_tally RX8 3 false 27 (s_const (.retAddr 2) 30) := k_gets_rbs (wk2 wb_4_76) (dk_getstatic (by decide +kernel : bk3 cX8_tally 27 178 427 = true))
theorem oX8_tally_30 : pm_okF cX8_tally RX8 3 false 30 (s_il 1 31) := k_iload_n (dk_iload_n_1 (by decide +kernel : bk1 cX8_tally 30 27 = true)) rfl
theorem oX8_tally_31 : pm_okF cX8_tally RX8 3 false 31 (s_const (.int 1) 32) := k_iconst (dk_iconst_1 (by decide +kernel : bk1 cX8_tally 31 4 = true)) (by decide)
theorem oX8_tally_32 : pm_okF cX8_tally RX8 3 false 32 (s_bin (fun x y => x - y) 33) := k_isub (dk_isub (by decide +kernel : bk1 cX8_tally 32 100 = true))
theorem oX8_tally_33 : pm_okF cX8_tally RX8 3 false 33 (s_const (.int 11) 35) := k_bipush (dk_bipush (by decide +kernel : bkB cX8_tally 33 16 11 = true)) (by decide)
theorem oX8_tally_35 : pm_okF cX8_tally RX8 3 false 35 (s_bin (fun x y => x * y) 36) := k_imul (dk_imul (by decide +kernel : bk1 cX8_tally 35 104 = true))
theorem oX8_tally_36 : pm_okF cX8_tally RX8 3 false 36 (s_il 2 37) := k_iload_n (dk_iload_n_2 (by decide +kernel : bk1 cX8_tally 36 28 = true)) rfl
theorem oX8_tally_37 : pm_okF cX8_tally RX8 3 false 37 (s_bin (fun x y => x + y) 38) := k_iadd (dk_iadd (by decide +kernel : bk1 cX8_tally 37 96 = true))
theorem oX8_tally_38 : pm_okF cX8_tally RX8 3 false 38 (s_tald 39) := k_tald (dk_iaload (by decide +kernel : bk1 cX8_tally 38 46 = true))
theorem oX8_tally_39 : pm_okF cX8_tally RX8 3 false 39 (s_goto 43) := k_goto (dk_goto (by decide +kernel : bkS cX8_tally 39 167 4 = true)) (by decide)
theorem oX8_tally_42 : pm_okF cX8_tally RX8 3 false 42 (s_const (.int 0) 43) := k_iconst (dk_iconst_0 (by decide +kernel : bk1 cX8_tally 42 3 = true)) (by decide)
theorem oX8_tally_43 : pm_okR cX8_tally (some .int) 43 1 := ⟨rfl, (dk_ireturn (by decide +kernel : bk1 cX8_tally 43 172 = true))⟩
set_option maxRecDepth 20000 in
theorem oX8_tally : pm_okM pm_P iX8_tally := ⟨(by decide +kernel), (fun h => by cases h), List.forall_mem_cons.mpr ⟨oX8_tally_0, List.forall_mem_cons.mpr ⟨oX8_tally_1, List.forall_mem_cons.mpr ⟨oX8_tally_2, List.forall_mem_cons.mpr ⟨oX8_tally_5, List.forall_mem_cons.mpr ⟨oX8_tally_8, List.forall_mem_cons.mpr ⟨oX8_tally_9, List.forall_mem_cons.mpr ⟨oX8_tally_12, List.forall_mem_cons.mpr ⟨oX8_tally_13, List.forall_mem_cons.mpr ⟨oX8_tally_15, List.forall_mem_cons.mpr ⟨oX8_tally_18, List.forall_mem_cons.mpr ⟨oX8_tally_20, List.forall_mem_cons.mpr ⟨oX8_tally_21, List.forall_mem_cons.mpr ⟨oX8_tally_22, List.forall_mem_cons.mpr ⟨oX8_tally_24, List.forall_mem_cons.mpr ⟨oX8_tally_27, List.forall_mem_cons.mpr ⟨oX8_tally_30, List.forall_mem_cons.mpr ⟨oX8_tally_31, List.forall_mem_cons.mpr ⟨oX8_tally_32, List.forall_mem_cons.mpr ⟨oX8_tally_33, List.forall_mem_cons.mpr ⟨oX8_tally_35, List.forall_mem_cons.mpr ⟨oX8_tally_36, List.forall_mem_cons.mpr ⟨oX8_tally_37, List.forall_mem_cons.mpr ⟨oX8_tally_38, List.forall_mem_cons.mpr ⟨oX8_tally_39, List.forall_mem_cons.mpr ⟨oX8_tally_42, List.forall_mem_cons.mpr ⟨oX8_tally_43, fun _ h => absurd h List.not_mem_nil⟩⟩⟩⟩⟩⟩⟩⟩⟩⟩⟩⟩⟩⟩⟩⟩⟩⟩⟩⟩⟩⟩⟩⟩⟩⟩⟩
set_option maxRecDepth 20000 in
theorem oX8_term : pm_okM pm_P iX8_term := rows_F (kd := 3) (plainFor_of_name pnRX8) rfl (abX8_term w0) poRX8_g pcRX8_g rfl (by decide +kernel)
set_option maxRecDepth 20000 in
theorem oX8_trades : pm_okM pm_P iX8_trades := rows_F (kd := 1) (plainFor_of_name pnRX8) rfl (abX8_trades w0) poRX8_g pcRX8_g rfl (by decide +kernel)
set_option maxRecDepth 20000 in
theorem oX8_trees : pm_okM pm_P iX8_trees := rows_F (kd := 1) (plainFor_of_name pnRX8) rfl (abX8_trees w0) poRX8_g pcRX8_g rfl (by decide +kernel)
set_option maxRecDepth 20000 in
theorem oX8_tryWishes : pm_okM pm_P iX8_tryWishes := rows_F (kd := 0) (plainFor_of_name pnRX8) rfl (abX8_tryWishes w0) poRX8_g pcRX8_g rfl (by decide +kernel)
set_option maxRecDepth 20000 in
theorem oX8_turned : pm_okM pm_P iX8_turned := rows_F (kd := 1) (plainFor_of_name pnRX8) rfl (abX8_turned w0) poRX8_g pcRX8_g rfl (by decide +kernel)
set_option maxRecDepth 20000 in
theorem oX8_undo : pm_okM pm_P iX8_undo := rows_F (kd := 1) (plainFor_of_name pnRX8) rfl (abX8_undo w0) poRX8_g pcRX8_g rfl (by decide +kernel)
set_option maxRecDepth 20000 in
theorem oX8_upset : pm_okM pm_P iX8_upset := rows_F (kd := 1) (plainFor_of_name pnRX8) rfl (abX8_upset w0) poRX8_g pcRX8_g rfl (by decide +kernel)
set_option maxRecDepth 20000 in
theorem oX8_visit : pm_okM pm_P iX8_visit := rows_F (kd := 1) (plainFor_of_name pnRX8) rfl (abX8_visit w0) poRX8_g pcRX8_g rfl (by decide +kernel)
set_option maxRecDepth 20000 in
theorem oX8_wants : pm_okM pm_P iX8_wants := rows_F (kd := 1) (plainFor_of_name pnRX8) rfl (abX8_wants w0) poRX8_g pcRX8_g rfl (by decide +kernel)
set_option maxRecDepth 20000 in
theorem oX8_wish : pm_okM pm_P iX8_wish := rows_F (kd := 1) (plainFor_of_name pnRX8) rfl (abX8_wish w0) poRX8_g pcRX8_g rfl (by decide +kernel)
set_option maxRecDepth 20000 in
theorem oX8_wishesUpTo : pm_okM pm_P iX8_wishesUpTo := rows_F (kd := 1) (plainFor_of_name pnRX8) rfl (abX8_wishesUpTo w0) poRX8_g pcRX8_g rfl (by decide +kernel)
set_option maxRecDepth 20000 in
theorem oX8_worst : pm_okM pm_P iX8_worst := rows_F (kd := 1) (plainFor_of_name pnRX8) rfl (abX8_worst w0) poRX8_g pcRX8_g rfl (by decide +kernel)
set_option maxRecDepth 20000 in
theorem oX8_worth : pm_okM pm_P iX8_worth := rows_F (kd := 1) (plainFor_of_name pnRX8) rfl (abX8_worth w0) poRX8_g pcRX8_g rfl (by decide +kernel)
set_option maxRecDepth 20000 in
theorem oX8_write : pm_okM pm_P iX8_write := rows_F (kd := 1) (plainFor_of_name pnRX8) rfl (abX8_write w0) poRX8_g pcRX8_g rfl (by decide +kernel)
end
section
/-! the rows are sound (written by tab2.py) -/
set_option maxRecDepth 20000 in
theorem oX9_above : pm_okM pm_P iX9_above := rows_F (kd := 1) (plainFor_of_name pnRX9) rfl (abX9_above w0) poRX9_g pcRX9_g rfl (by decide +kernel)
set_option maxRecDepth 20000 in
theorem oX9_above0 : pm_okM pm_P iX9_above0 := rows_F (kd := 1) (plainFor_of_name pnRX9) rfl (abX9_above0 w0) poRX9_g pcRX9_g rfl (by decide +kernel)
set_option maxRecDepth 20000 in
theorem oX9_across : pm_okM pm_P iX9_across := rows_F (kd := 1) (plainFor_of_name pnRX9) rfl (abX9_across w0) poRX9_g pcRX9_g rfl (by decide +kernel)
set_option maxRecDepth 20000 in
theorem oX9_anew : pm_okM pm_P iX9_anew := rows_F (kd := 1) (plainFor_of_name pnRX9) rfl (abX9_anew w0) poRX9_g pcRX9_g rfl (by decide +kernel)
set_option maxRecDepth 20000 in
theorem oX9_areTwo : pm_okM pm_P iX9_areTwo := rows_F (kd := 2) (plainFor_of_name pnRX9) rfl (abX9_areTwo w0) poRX9_g pcRX9_g rfl (by decide +kernel)
set_option maxRecDepth 20000 in
theorem oX9_ask : pm_okM pm_P iX9_ask := rows_F (kd := 1) (plainFor_of_name pnRX9) rfl (abX9_ask w0) poRX9_g pcRX9_g rfl (by decide +kernel)
set_option maxRecDepth 20000 in
theorem oX9_asks : pm_okM pm_P iX9_asks := rows_F (kd := 0) (plainFor_of_name pnRX9) rfl (abX9_asks w0) poRX9_g pcRX9_g rfl (by decide +kernel)
set_option maxRecDepth 20000 in
theorem oX9_astride : pm_okM pm_P iX9_astride := rows_F (kd := 1) (plainFor_of_name pnRX9) rfl (abX9_astride w0) poRX9_g pcRX9_g rfl (by decide +kernel)
set_option maxRecDepth 20000 in
theorem oX9_back : pm_okM pm_P iX9_back := rows_F (kd := 1) (plainFor_of_name pnRX9) rfl (abX9_back w0) poRX9_g pcRX9_g rfl (by decide +kernel)
set_option maxRecDepth 20000 in
theorem oX9_begins : pm_okM pm_P iX9_begins := rows_F (kd := 0) (plainFor_of_name pnRX9) rfl (abX9_begins w0) poRX9_g pcRX9_g rfl (by decide +kernel)
set_option maxRecDepth 20000 in
theorem oX9_blame : pm_okM pm_P iX9_blame := rows_F (kd := 1) (plainFor_of_name pnRX9) rfl (abX9_blame w0) poRX9_g pcRX9_g rfl (by decide +kernel)
set_option maxRecDepth 20000 in
theorem oX9_block : pm_okM pm_P iX9_block := rows_F (kd := 1) (plainFor_of_name pnRX9) rfl (abX9_block w0) poRX9_g pcRX9_g rfl (by decide +kernel)
set_option maxRecDepth 20000 in
theorem oX9_blockBits : pm_okM pm_P iX9_blockBits := rows_F (kd := 1) (plainFor_of_name pnRX9) rfl (abX9_blockBits w0) poRX9_g pcRX9_g rfl (by decide +kernel)
set_option maxRecDepth 20000 in
theorem oX9_blocks : pm_okM pm_P iX9_blocks := rows_F (kd := 1) (plainFor_of_name pnRX9) rfl (abX9_blocks w0) poRX9_g pcRX9_g rfl (by decide +kernel)
set_option maxRecDepth 20000 in
theorem oX9_blocksNow : pm_okM pm_P iX9_blocksNow := rows_F (kd := 1) (plainFor_of_name pnRX9) rfl (abX9_blocksNow w0) poRX9_g pcRX9_g rfl (by decide +kernel)
set_option maxRecDepth 20000 in
theorem oX9_breaks : pm_okM pm_P iX9_breaks := rows_F (kd := 1) (plainFor_of_name pnRX9) rfl (abX9_breaks w0) poRX9_g pcRX9_g rfl (by decide +kernel)
set_option maxRecDepth 20000 in
theorem oX9_burnt : pm_okM pm_P iX9_burnt := rows_F (kd := 1) (plainFor_of_name pnRX9) rfl (abX9_burnt w0) poRX9_g pcRX9_g rfl (by decide +kernel)
set_option maxRecDepth 20000 in
theorem oX9_by : pm_okM pm_P iX9_by := rows_F (kd := 1) (plainFor_of_name pnRX9) rfl (abX9_by w0) poRX9_g pcRX9_g rfl (by decide +kernel)
set_option maxRecDepth 20000 in
theorem oX9_car : pm_okM pm_P iX9_car := rows_F (kd := 1) (plainFor_of_name pnRX9) rfl (abX9_car w0) poRX9_g pcRX9_g rfl (by decide +kernel)
set_option maxRecDepth 20000 in
theorem oX9_carLine : pm_okM pm_P iX9_carLine := rows_F (kd := 0) (plainFor_of_name pnRX9) rfl (abX9_carLine w0) poRX9_g pcRX9_g rfl (by decide +kernel)
set_option maxRecDepth 20000 in
theorem oX9_cars : pm_okM pm_P iX9_cars := rows_F (kd := 1) (plainFor_of_name pnRX9) rfl (abX9_cars w0) poRX9_g pcRX9_g rfl (by decide +kernel)
set_option maxRecDepth 20000 in
theorem oX9_chain : pm_okM pm_P iX9_chain := rows_F (kd := 1) (plainFor_of_name pnRX9) rfl (abX9_chain w0) poRX9_g pcRX9_g rfl (by decide +kernel)
set_option maxRecDepth 20000 in
theorem oX9_chance : pm_okM pm_P iX9_chance := rows_F (kd := 1) (plainFor_of_name pnRX9) rfl (abX9_chance w0) poRX9_g pcRX9_g rfl (by decide +kernel)
set_option maxRecDepth 20000 in
theorem oX9_clears : pm_okM pm_P iX9_clears := rows_F (kd := 0) (plainFor_of_name pnRX9) rfl (abX9_clears w0) poRX9_g pcRX9_g rfl (by decide +kernel)
set_option maxRecDepth 20000 in
theorem oX9_closes : pm_okM pm_P iX9_closes := rows_F (kd := 0) (plainFor_of_name pnRX9) rfl (abX9_closes w0) poRX9_g pcRX9_g rfl (by decide +kernel)
set_option maxRecDepth 20000 in
theorem oX9_code : pm_okM pm_P iX9_code := rows_F (kd := 1) (plainFor_of_name pnRX9) rfl (abX9_code w0) poRX9_g pcRX9_g rfl (by decide +kernel)
set_option maxRecDepth 20000 in
theorem oX9_common : pm_okM pm_P iX9_common := rows_F (kd := 3) (plainFor_of_name pnRX9) rfl (abX9_common w0) poRX9_g pcRX9_g rfl (by decide +kernel)
end
section
/-! the rows are sound (written by tab2.py) -/
set_option maxRecDepth 20000 in
theorem oX9_copyRow : pm_okM pm_P iX9_copyRow := rows_F (kd := 0) (plainFor_of_name pnRX9) rfl (abX9_copyRow w0) poRX9_g pcRX9_g rfl (by decide +kernel)
set_option maxRecDepth 20000 in
theorem oX9_copyStreet : pm_okM pm_P iX9_copyStreet := rows_F (kd := 0) (plainFor_of_name pnRX9) rfl (abX9_copyStreet w0) poRX9_g pcRX9_g rfl (by decide +kernel)
theorem oX9_count_0 : pm_okF cX9_count RX9 4 false 0 (s_al 0 1) := k_aload_n (dk_aload_n_0 (by decide +kernel : bk1 cX9_count 0 42 = true)) rfl
theorem oX9_count_1 : pm_okF cX9_count RX9 4 false 1 (s_const (.int 0) 2) := k_iconst (dk_iconst_0 (by decide +kernel : bk1 cX9_count 1 3 = true)) (by decide)
theorem oX9_count_2 : pm_okF cX9_count RX9 4 false 2 (s_putf 9 0 (.int) 5) := k_putf (C := RX9) (T := TX9) (N := 45) rfl inX9 tyX9_ok nmX9 (by decide) rfl rfl (wk10 wb_5_156) (dk_putfield (by decide +kernel : bk3 cX9_count 2 181 92 = true))
theorem oX9_count_5 : pm_okF cX9_count RX9 4 false 5 (s_il 1 6) := k_iload_n (dk_iload_n_1 (by decide +kernel : bk1 cX9_count 5 27 = true)) rfl
theorem oX9_count_6 : pm_okF cX9_count RX9 4 false 6 (s_i2l 7) := k_i2l (dk_i2l (by decide +kernel : bk1 cX9_count 6 133 = true))
theorem oX9_count_7 : pm_okF cX9_count RX9 4 false 7 (s_const (.long 0) 8) := k_lconst (dk_lconst_0 (by decide +kernel : bk1 cX9_count 7 9 = true)) (by decide)
theorem oX9_count_8 : pm_okF cX9_count RX9 4 false 8 (s_const (.long 5) 11) := k_ldc2 (dk_ldc2_w (by decide +kernel : bk3 cX9_count 8 20 371 = true)) (wk2 wb_8_13)
theorem oX9_count_11 : ∃ I : pm_M, pm_at pm_P 261 = some I ∧ I.2.2.2.2.2.1 = 0 ∧ I.2.2.2.2.2.2.1 = 0 ∧ pm_okC cX9_count RX9 4 false 11 I.1 I.2.1 I.2.2.1 I.2.2.2.1 3 (none) 0 0 := ⟨iX9_in, aiX9_in, rfl, rfl, k_callS (n := 3) (dk_invokestatic (by decide +kernel : bk3 cX9_count 11 184 97 = true)) (wk10 wb_6_62) (wk8 wb_6_62) (wk9 wb_6_62) (wk9 wb_1_1) (by decide +kernel) (by decide)⟩
theorem oX9_count_14 : pm_okF cX9_count RX9 4 false 14 (s_if (fun x => decide (x = 0)) 24 17) := k_if_eq (dk_ifCond_eq (by decide +kernel : bkS cX9_count 14 153 10 = true)) (by decide)
theorem oX9_count_17 : pm_okF cX9_count RX9 4 false 17 (s_al 0 18) := k_aload_n (dk_aload_n_0 (by decide +kernel : bk1 cX9_count 17 42 = true)) rfl
theorem oX9_count_18 : pm_okF cX9_count RX9 4 false 18 (s_getf 9 17 21) := k_getf (C := RX9) (T := TX9) (N := 45) rfl inX9 (by decide) (wk11 wb_5_172) (dk_getfield (by decide +kernel : bk3 cX9_count 18 180 34 = true))
theorem oX9_count_21 : pm_okF cX9_count RX9 4 false 21 (s_il 1 22) := k_iload_n (dk_iload_n_1 (by decide +kernel : bk1 cX9_count 21 27 = true)) rfl
theorem oX9_count_22 : pm_okF cX9_count RX9 4 false 22 (s_iald 23) := k_iald (dk_iaload (by decide +kernel : bk1 cX9_count 22 46 = true))
theorem oX9_count_23 : pm_okR cX9_count (some .int) 23 1 := ⟨rfl, (dk_ireturn (by decide +kernel : bk1 cX9_count 23 172 = true))⟩
theorem oX9_count_24 : pm_okF cX9_count RX9 4 false 24 (s_const (.int 0) 25) := k_iconst (dk_iconst_0 (by decide +kernel : bk1 cX9_count 24 3 = true)) (by decide)
theorem oX9_count_25 : pm_okF cX9_count RX9 4 false 25 (s_is 2 26) := k_istore_n (dk_istore_n_2 (by decide +kernel : bk1 cX9_count 25 61 = true)) rfl (by decide)
theorem oX9_count_26 : pm_okF cX9_count RX9 4 false 26 (s_il 1 27) := k_iload_n (dk_iload_n_1 (by decide +kernel : bk1 cX9_count 26 27 = true)) rfl
theorem oX9_count_27 : pm_okF cX9_count RX9 4 false 27 (s_tsw 6 8 [52, 59, 64] 97) := k_tsw (by decide +kernel : decode cX9_count 27 = .ok (.tableswitch 70 6 8 #[25, 32, 37], 25)) (by decide) (by decide +kernel)
theorem oX9_count_52 : pm_okF cX9_count RX9 4 false 52 (s_al 0 53) := k_aload_n (dk_aload_n_0 (by decide +kernel : bk1 cX9_count 52 42 = true)) rfl
theorem oX9_count_53 : pm_okF cX9_count RX9 4 false 53 (s_getf 9 16 56) := k_getf (C := RX9) (T := TX9) (N := 45) rfl inX9 (by decide) (wk10 wb_5_172) (dk_getfield (by decide +kernel : bk3 cX9_count 53 180 31 = true))
theorem oX9_count_56 : pm_okF cX9_count RX9 4 false 56 (s_const (.int 0) 57) := k_iconst (dk_iconst_0 (by decide +kernel : bk1 cX9_count 56 3 = true)) (by decide)
theorem oX9_count_57 : pm_okF cX9_count RX9 4 false 57 (s_iald 58) := k_iald (dk_iaload (by decide +kernel : bk1 cX9_count 57 46 = true))
theorem oX9_count_58 : pm_okR cX9_count (some .int) 58 1 := ⟨rfl, (dk_ireturn (by decide +kernel : bk1 cX9_count 58 172 = true))⟩
theorem oX9_count_59 : pm_okF cX9_count RX9 4 false 59 (s_al 0 60) := k_aload_n (dk_aload_n_0 (by decide +kernel : bk1 cX9_count 59 42 = true)) rfl
theorem oX9_count_60 : pm_okF cX9_count RX9 4 false 60 (s_getf 9 6 63) := k_getf (C := RX9) (T := TX9) (N := 45) rfl inX9 (by decide) (wk0 wb_5_172) (dk_getfield (by decide +kernel : bk3 cX9_count 60 180 109 = true))
theorem oX9_count_63 : pm_okR cX9_count (some .int) 63 1 := ⟨rfl, (dk_ireturn (by decide +kernel : bk1 cX9_count 63 172 = true))⟩
theorem oX9_count_64 : pm_okF cX9_count RX9 4 false 64 (s_const (.int 0) 65) := k_iconst (dk_iconst_0 (by decide +kernel : bk1 cX9_count 64 3 = true)) (by decide)
theorem oX9_count_65 : pm_okF cX9_count RX9 4 false 65 (s_is 3 66) := k_istore_n (dk_istore_n_3 (by decide +kernel : bk1 cX9_count 65 62 = true)) rfl (by decide)
theorem oX9_count_66 : pm_okF cX9_count RX9 4 false 66 (s_il 3 67) := k_iload_n (dk_iload_n_3 (by decide +kernel : bk1 cX9_count 66 29 = true)) rfl
theorem oX9_count_67 : pm_okF cX9_count RX9 4 false 67 (s_const (.int 4) 68) := k_iconst (dk_iconst_4 (by decide +kernel : bk1 cX9_count 67 7 = true)) (by decide)
theorem oX9_count_68 : pm_okF cX9_count RX9 4 false 68 (s_icmp (fun x y => decide (y ≤ x)) 95 71) := k_icmp_ge (dk_if_icmp_ge (by decide +kernel : bkS cX9_count 68 162 27 = true)) (by decide)
theorem oX9_count_71 : pm_okF cX9_count RX9 4 false 71 (s_il 2 72) := k_iload_n (dk_iload_n_2 (by decide +kernel : bk1 cX9_count 71 28 = true)) rfl
theorem oX9_count_72 : pm_okF cX9_count RX9 4 false 72 (s_al 0 73) := k_aload_n (dk_aload_n_0 (by decide +kernel : bk1 cX9_count 72 42 = true)) rfl
theorem oX9_count_73 : pm_okF cX9_count RX9 4 false 73 (s_getf 9 1 76) := k_getf (C := RX9) (T := TX9) (N := 45) rfl inX9 (by decide) (wk11 wb_5_156) (dk_getfield (by decide +kernel : bk3 cX9_count 73 180 7 = true))
theorem oX9_count_76 : pm_okF cX9_count RX9 4 false 76 (s_il 3 77) := k_iload_n (dk_iload_n_3 (by decide +kernel : bk1 cX9_count 76 29 = true)) rfl
theorem oX9_count_77 : pm_okF cX9_count RX9 4 false 77 (s_iald 78) := k_iald (dk_iaload (by decide +kernel : bk1 cX9_count 77 46 = true))
theorem oX9_count_78 : pm_okF cX9_count RX9 4 false 78 (s_const (.int (-1)) 79) := k_iconst (dk_iconst_m (by decide +kernel : bk1 cX9_count 78 2 = true)) (by decide)
theorem oX9_count_79 : pm_okF cX9_count RX9 4 false 79 (s_icmp (fun x y => decide (¬ x = y)) 86 82) := k_icmp_ne (dk_if_icmp_ne (by decide +kernel : bkS cX9_count 79 160 7 = true)) (by decide)
theorem oX9_count_82 : pm_okF cX9_count RX9 4 false 82 (s_const (.int 0) 83) := k_iconst (dk_iconst_0 (by decide +kernel : bk1 cX9_count 82 3 = true)) (by decide)
theorem oX9_count_83 : pm_okF cX9_count RX9 4 false 83 (s_goto 87) := k_goto (dk_goto (by decide +kernel : bkS cX9_count 83 167 4 = true)) (by decide)
theorem oX9_count_86 : pm_okF cX9_count RX9 4 false 86 (s_const (.int 1) 87) := k_iconst (dk_iconst_1 (by decide +kernel : bk1 cX9_count 86 4 = true)) (by decide)
theorem oX9_count_87 : pm_okF cX9_count RX9 4 false 87 (s_bin (fun x y => x + y) 88) := k_iadd (dk_iadd (by decide +kernel : bk1 cX9_count 87 96 = true))
theorem oX9_count_88 : pm_okF cX9_count RX9 4 false 88 (s_is 2 89) := k_istore_n (dk_istore_n_2 (by decide +kernel : bk1 cX9_count 88 61 = true)) rfl (by decide)
theorem oX9_count_89 : pm_okF cX9_count RX9 4 false 89 (s_inc 3 1 92) := k_iinc (dk_iinc (by decide +kernel : bkI cX9_count 89 132 3 1 = true)) (by decide) (by decide)
theorem oX9_count_92 : pm_okF cX9_count RX9 4 false 92 (s_goto 66) := k_goto (dk_goto (by decide +kernel : bkS cX9_count 92 167 (-26) = true)) (by decide)
theorem oX9_count_95 : pm_okF cX9_count RX9 4 false 95 (s_il 2 96) := k_iload_n (dk_iload_n_2 (by decide +kernel : bk1 cX9_count 95 28 = true)) rfl
theorem oX9_count_96 : pm_okR cX9_count (some .int) 96 1 := ⟨rfl, (dk_ireturn (by decide +kernel : bk1 cX9_count 96 172 = true))⟩
theorem oX9_count_97 : pm_okF cX9_count RX9 4 false 97 (s_const (.int (-1)) 98) := k_iconst (dk_iconst_m (by decide +kernel : bk1 cX9_count 97 2 = true)) (by decide)
theorem oX9_count_98 : pm_okR cX9_count (some .int) 98 1 := ⟨rfl, (dk_ireturn (by decide +kernel : bk1 cX9_count 98 172 = true))⟩
set_option maxRecDepth 20000 in
theorem oX9_count : pm_okM pm_P iX9_count := ⟨(by decide +kernel), (fun h => by cases h), List.forall_mem_cons.mpr ⟨oX9_count_0, List.forall_mem_cons.mpr ⟨oX9_count_1, List.forall_mem_cons.mpr ⟨oX9_count_2, List.forall_mem_cons.mpr ⟨oX9_count_5, List.forall_mem_cons.mpr ⟨oX9_count_6, List.forall_mem_cons.mpr ⟨oX9_count_7, List.forall_mem_cons.mpr ⟨oX9_count_8, List.forall_mem_cons.mpr ⟨oX9_count_11, List.forall_mem_cons.mpr ⟨oX9_count_14, List.forall_mem_cons.mpr ⟨oX9_count_17, List.forall_mem_cons.mpr ⟨oX9_count_18, List.forall_mem_cons.mpr ⟨oX9_count_21, List.forall_mem_cons.mpr ⟨oX9_count_22, List.forall_mem_cons.mpr ⟨oX9_count_23, List.forall_mem_cons.mpr ⟨oX9_count_24, List.forall_mem_cons.mpr ⟨oX9_count_25, List.forall_mem_cons.mpr ⟨oX9_count_26, List.forall_mem_cons.mpr ⟨oX9_count_27, List.forall_mem_cons.mpr ⟨oX9_count_52, List.forall_mem_cons.mpr ⟨oX9_count_53, List.forall_mem_cons.mpr ⟨oX9_count_56, List.forall_mem_cons.mpr ⟨oX9_count_57, List.forall_mem_cons.mpr ⟨oX9_count_58, List.forall_mem_cons.mpr ⟨oX9_count_59, List.forall_mem_cons.mpr ⟨oX9_count_60, List.forall_mem_cons.mpr ⟨oX9_count_63, List.forall_mem_cons.mpr ⟨oX9_count_64, List.forall_mem_cons.mpr ⟨oX9_count_65, List.forall_mem_cons.mpr ⟨oX9_count_66, List.forall_mem_cons.mpr ⟨oX9_count_67, List.forall_mem_cons.mpr ⟨oX9_count_68, List.forall_mem_cons.mpr ⟨oX9_count_71, List.forall_mem_cons.mpr ⟨oX9_count_72, List.forall_mem_cons.mpr ⟨oX9_count_73, List.forall_mem_cons.mpr ⟨oX9_count_76, List.forall_mem_cons.mpr ⟨oX9_count_77, List.forall_mem_cons.mpr ⟨oX9_count_78, List.forall_mem_cons.mpr ⟨oX9_count_79, List.forall_mem_cons.mpr ⟨oX9_count_82, List.forall_mem_cons.mpr ⟨oX9_count_83, List.forall_mem_cons.mpr ⟨oX9_count_86, List.forall_mem_cons.mpr ⟨oX9_count_87, List.forall_mem_cons.mpr ⟨oX9_count_88, List.forall_mem_cons.mpr ⟨oX9_count_89, List.forall_mem_cons.mpr ⟨oX9_count_92, List.forall_mem_cons.mpr ⟨oX9_count_95, List.forall_mem_cons.mpr ⟨oX9_count_96, List.forall_mem_cons.mpr ⟨oX9_count_97, List.forall_mem_cons.mpr ⟨oX9_count_98, fun _ h => absurd h List.not_mem_nil⟩⟩⟩⟩⟩⟩⟩⟩⟩⟩⟩⟩⟩⟩⟩⟩⟩⟩⟩⟩⟩⟩⟩⟩⟩⟩⟩⟩⟩⟩⟩⟩⟩⟩⟩⟩⟩⟩⟩⟩⟩⟩⟩⟩⟩⟩⟩⟩⟩⟩
set_option maxRecDepth 20000 in
theorem oX9_counts0 : pm_okM pm_P iX9_counts0 := rows_F (kd := 0) (plainFor_of_name pnRX9) rfl (abX9_counts0 w0) poRX9_g pcRX9_g rfl (by decide +kernel)
set_option maxRecDepth 20000 in
theorem oX9_crossed : pm_okM pm_P iX9_crossed := rows_F (kd := 1) (plainFor_of_name pnRX9) rfl (abX9_crossed w0) poRX9_g pcRX9_g rfl (by decide +kernel)
set_option maxRecDepth 20000 in
theorem oX9_cut : pm_okM pm_P iX9_cut := rows_F (kd := 3) (plainFor_of_name pnRX9) rfl (abX9_cut w0) poRX9_g pcRX9_g rfl (by decide +kernel)
set_option maxRecDepth 20000 in
theorem oX9_depth : pm_okM pm_P iX9_depth := rows_F (kd := 1) (plainFor_of_name pnRX9) rfl (abX9_depth w0) poRX9_g pcRX9_g rfl (by decide +kernel)
set_option maxRecDepth 20000 in
theorem oX9_does : pm_okM pm_P iX9_does := rows_F (kd := 1) (plainFor_of_name pnRX9) rfl (abX9_does w0) poRX9_g pcRX9_g rfl (by decide +kernel)
set_option maxRecDepth 20000 in
theorem oX9_drawn : pm_okM pm_P iX9_drawn := rows_F (kd := 1) (plainFor_of_name pnRX9) rfl (abX9_drawn w0) poRX9_g pcRX9_g rfl (by decide +kernel)
set_option maxRecDepth 20000 in
theorem oX9_draws : pm_okM pm_P iX9_draws := rows_F (kd := 0) (plainFor_of_name pnRX9) rfl (abX9_draws w0) poRX9_g pcRX9_g rfl (by decide +kernel)
set_option maxRecDepth 20000 in
theorem oX9_end : pm_okM pm_P iX9_end := rows_F (kd := 1) (plainFor_of_name pnRX9) rfl (abX9_end w0) poRX9_g pcRX9_g rfl (by decide +kernel)
set_option maxRecDepth 20000 in
theorem oX9_ends : pm_okM pm_P iX9_ends := rows_F (kd := 1) (plainFor_of_name pnRX9) rfl (abX9_ends w0) poRX9_g pcRX9_g rfl (by decide +kernel)
set_option maxRecDepth 20000 in
theorem oX9_fails : pm_okM pm_P iX9_fails := rows_F (kd := 0) (plainFor_of_name pnRX9) rfl (abX9_fails w0) poRX9_g pcRX9_g rfl (by decide +kernel)
set_option maxRecDepth 20000 in
theorem oX9_far : pm_okM pm_P iX9_far := rows_F (kd := 1) (plainFor_of_name pnRX9) rfl (abX9_far w0) poRX9_g pcRX9_g rfl (by decide +kernel)
set_option maxRecDepth 20000 in
theorem oX9_far0 : pm_okM pm_P iX9_far0 := rows_F (kd := 1) (plainFor_of_name pnRX9) rfl (abX9_far0 w0) poRX9_g pcRX9_g rfl (by decide +kernel)
set_option maxRecDepth 20000 in
theorem oX9_fault : pm_okM pm_P iX9_fault := rows_F (kd := 1) (plainFor_of_name pnRX9) rfl (abX9_fault w0) poRX9_g pcRX9_g rfl (by decide +kernel)
set_option maxRecDepth 20000 in
theorem oX9_feed : pm_okM pm_P iX9_feed := rows_F (kd := 1) (plainFor_of_name pnRX9) rfl (abX9_feed w0) poRX9_g pcRX9_g rfl (by decide +kernel)
set_option maxRecDepth 20000 in
theorem oX9_fences : pm_okM pm_P iX9_fences := rows_F (kd := 1) (plainFor_of_name pnRX9) rfl (abX9_fences w0) poRX9_g pcRX9_g rfl (by decide +kernel)
set_option maxRecDepth 20000 in
theorem oX9_findsBy : pm_okM pm_P iX9_findsBy := rows_F (kd := 1) (plainFor_of_name pnRX9) rfl (abX9_findsBy w0) poRX9_g pcRX9_g rfl (by decide +kernel)
set_option maxRecDepth 20000 in
theorem oX9_fits : pm_okM pm_P iX9_fits := rows_F (kd := 1) (plainFor_of_name pnRX9) rfl (abX9_fits w0) poRX9_g pcRX9_g rfl (by decide +kernel)
set_option maxRecDepth 20000 in
theorem oX9_follows : pm_okM pm_P iX9_follows := rows_F (kd := 0) (plainFor_of_name pnRX9) rfl (abX9_follows w0) poRX9_g pcRX9_g rfl (by decide +kernel)
end
section
/-! the rows are sound (written by tab2.py) -/
set_option maxRecDepth 20000 in
theorem oX9_four : pm_okM pm_P iX9_four := rows_F (kd := 0) (plainFor_of_name pnRX9) rfl (abX9_four w0) poRX9_g pcRX9_g rfl (by decide +kernel)
set_option maxRecDepth 20000 in
theorem oX9_free : pm_okM pm_P iX9_free := rows_F (kd := 1) (plainFor_of_name pnRX9) rfl (abX9_free w0) poRX9_g pcRX9_g rfl (by decide +kernel)
set_option maxRecDepth 20000 in
theorem oX9_gets : pm_okM pm_P iX9_gets := rows_F (kd := 1) (plainFor_of_name pnRX9) rfl (abX9_gets w0) poRX9_g pcRX9_g rfl (by decide +kernel)
set_option maxRecDepth 20000 in
theorem oX9_getsBy : pm_okM pm_P iX9_getsBy := rows_F (kd := 1) (plainFor_of_name pnRX9) rfl (abX9_getsBy w0) poRX9_g pcRX9_g rfl (by decide +kernel)
set_option maxRecDepth 20000 in
theorem oX9_goesOn : pm_okM pm_P iX9_goesOn := rows_F (kd := 0) (plainFor_of_name pnRX9) rfl (abX9_goesOn w0) poRX9_g pcRX9_g rfl (by decide +kernel)
set_option maxRecDepth 20000 in
theorem oX9_hasRead : pm_okM pm_P iX9_hasRead := rows_F (kd := 1) (plainFor_of_name pnRX9) rfl (abX9_hasRead w0) poRX9_g pcRX9_g rfl (by decide +kernel)
set_option maxRecDepth 20000 in
theorem oX9_holder : pm_okM pm_P iX9_holder := rows_F (kd := 1) (plainFor_of_name pnRX9) rfl (abX9_holder w0) poRX9_g pcRX9_g rfl (by decide +kernel)
set_option maxRecDepth 20000 in
theorem oX9_hole : pm_okM pm_P iX9_hole := rows_F (kd := 1) (plainFor_of_name pnRX9) rfl (abX9_hole w0) poRX9_g pcRX9_g rfl (by decide +kernel)
set_option maxRecDepth 20000 in
theorem oX9_image : pm_okM pm_P iX9_image := rows_F (kd := 1) (plainFor_of_name pnRX9) rfl (abX9_image w0) poRX9_g pcRX9_g rfl (by decide +kernel)
set_option maxRecDepth 20000 in
theorem oX9_in : pm_okM pm_P iX9_in := rows_F (kd := 2) (plainFor_of_name pnRX9) rfl (abX9_in w0) poRX9_g pcRX9_g rfl (by decide +kernel)
theorem oX9_init_0 : pm_okF cX9_init RX9 2 true 0 (s_al 0 1) := k_aload_n (dk_aload_n_0 (by decide +kernel : bk1 cX9_init 0 42 = true)) rfl
theorem oX9_init_1 : pm_okF cX9_init RX9 2 true 1 (s_obj 4) := k_obj (wk9 wb_5_156) (wk9 wb_1_15) (wk10 wb_1_15) (dk_invokespecial (by decide +kernel : bk3 cX9_init 1 183 1 = true))
theorem oX9_init_4 : pm_okF cX9_init RX9 2 true 4 (s_al 0 5) := k_aload_n (dk_aload_n_0 (by decide +kernel : bk1 cX9_init 4 42 = true)) rfl
theorem oX9_init_5 : pm_okF cX9_init RX9 2 true 5 (s_const (.int 4) 6) := k_iconst (dk_iconst_4 (by decide +kernel : bk1 cX9_init 5 7 = true)) (by decide)
theorem oX9_init_6 : pm_okF cX9_init RX9 2 true 6 (s_newa 0 (.inl (fun _ => 0)) 8) := k_newa_int (by decide +kernel : decode cX9_init 6 = .ok (.newarray .int, 2))
theorem oX9_init_8 : pm_okF cX9_init RX9 2 true 8 (s_putf 9 1 (.array .int) 11) := k_putF (C := RX9) (T := TX9) (N := 45) rfl inX9 tyX9_ok nmX9 (by decide) rfl rfl rfl (wk11 wb_5_156) (dk_putfield (by decide +kernel : bk3 cX9_init 8 181 7 = true))
theorem oX9_init_11 : pm_okF cX9_init RX9 2 true 11 (s_al 0 12) := k_aload_n (dk_aload_n_0 (by decide +kernel : bk1 cX9_init 11 42 = true)) rfl
theorem oX9_init_12 : pm_okF cX9_init RX9 2 true 12 (s_const (.int 4) 13) := k_iconst (dk_iconst_4 (by decide +kernel : bk1 cX9_init 12 7 = true)) (by decide)
theorem oX9_init_13 : pm_okF cX9_init RX9 2 true 13 (s_newa 0 (.inl (fun _ => 0)) 15) := k_newa_int (by decide +kernel : decode cX9_init 13 = .ok (.newarray .int, 2))
theorem oX9_init_15 : pm_okF cX9_init RX9 2 true 15 (s_putf 9 2 (.array .int) 18) := k_putF (C := RX9) (T := TX9) (N := 45) rfl inX9 tyX9_ok nmX9 (by decide) rfl rfl rfl (wk12 wb_5_156) (dk_putfield (by decide +kernel : bk3 cX9_init 15 181 13 = true))
theorem oX9_init_18 : pm_okF cX9_init RX9 2 true 18 (s_al 0 19) := k_aload_n (dk_aload_n_0 (by decide +kernel : bk1 cX9_init 18 42 = true)) rfl
theorem oX9_init_19 : pm_okF cX9_init RX9 2 true 19 (s_const (.int 240) 22) := k_sipush (dk_sipush (by decide +kernel : bkS cX9_init 19 17 240 = true)) (by decide)
theorem oX9_init_22 : pm_okF cX9_init RX9 2 true 22 (s_newa 3 (.inr (.inl (fun _ => 0))) 24) := k_newa_long (by decide +kernel : decode cX9_init 22 = .ok (.newarray .long, 2))
theorem oX9_init_24 : pm_okF cX9_init RX9 2 true 24 (s_putf 9 3 (.array .long) 27) := k_putF (C := RX9) (T := TX9) (N := 45) rfl inX9 tyX9_ok nmX9 (by decide) rfl rfl rfl (wk13 wb_5_156) (dk_putfield (by decide +kernel : bk3 cX9_init 24 181 16 = true))
theorem oX9_init_27 : pm_okF cX9_init RX9 2 true 27 (s_al 0 28) := k_aload_n (dk_aload_n_0 (by decide +kernel : bk1 cX9_init 27 42 = true)) rfl
theorem oX9_init_28 : pm_okF cX9_init RX9 2 true 28 (s_const (.int 60) 30) := k_bipush (dk_bipush (by decide +kernel : bkB cX9_init 28 16 60 = true)) (by decide)
theorem oX9_init_30 : pm_okF cX9_init RX9 2 true 30 (s_newa 3 (.inr (.inl (fun _ => 0))) 32) := k_newa_long (by decide +kernel : decode cX9_init 30 = .ok (.newarray .long, 2))
theorem oX9_init_32 : pm_okF cX9_init RX9 2 true 32 (s_putf 9 4 (.array .long) 35) := k_putF (C := RX9) (T := TX9) (N := 45) rfl inX9 tyX9_ok nmX9 (by decide) rfl rfl rfl (wk14 wb_5_156) (dk_putfield (by decide +kernel : bk3 cX9_init 32 181 20 = true))
theorem oX9_init_35 : pm_okF cX9_init RX9 2 true 35 (s_al 0 36) := k_aload_n (dk_aload_n_0 (by decide +kernel : bk1 cX9_init 35 42 = true)) rfl
theorem oX9_init_36 : pm_okF cX9_init RX9 2 true 36 (s_const (.int 500) 39) := k_sipush (dk_sipush (by decide +kernel : bkS cX9_init 36 17 500 = true)) (by decide)
theorem oX9_init_39 : pm_okF cX9_init RX9 2 true 39 (s_newa 1 (.inl (fun _ => 0)) 41) := k_newa_byte (by decide +kernel : decode cX9_init 39 = .ok (.newarray .byte, 2))
theorem oX9_init_41 : pm_okF cX9_init RX9 2 true 41 (s_putf 9 5 (.array .byte) 44) := k_putF (C := RX9) (T := TX9) (N := 45) rfl inX9 tyX9_ok nmX9 (by decide) rfl rfl rfl (wk15 wb_5_156) (dk_putfield (by decide +kernel : bk3 cX9_init 41 181 23 = true))
theorem oX9_init_44 : pm_okF cX9_init RX9 2 true 44 (s_al 0 45) := k_aload_n (dk_aload_n_0 (by decide +kernel : bk1 cX9_init 44 42 = true)) rfl
theorem oX9_init_45 : pm_okF cX9_init RX9 2 true 45 (s_const (.int (-1)) 46) := k_iconst (dk_iconst_m (by decide +kernel : bk1 cX9_init 45 2 = true)) (by decide)
theorem oX9_init_46 : pm_okF cX9_init RX9 2 true 46 (s_putf 9 15 (.int) 49) := k_putf (C := RX9) (T := TX9) (N := 45) rfl inX9 tyX9_ok nmX9 (by decide) rfl rfl (wk9 wb_5_172) (dk_putfield (by decide +kernel : bk3 cX9_init 46 181 27 = true))
theorem oX9_init_49 : pm_okF cX9_init RX9 2 true 49 (s_al 0 50) := k_aload_n (dk_aload_n_0 (by decide +kernel : bk1 cX9_init 49 42 = true)) rfl
theorem oX9_init_50 : pm_okF cX9_init RX9 2 true 50 (s_const (.int 5) 51) := k_iconst (dk_iconst_5 (by decide +kernel : bk1 cX9_init 50 8 = true)) (by decide)
theorem oX9_init_51 : pm_okF cX9_init RX9 2 true 51 (s_newa 0 (.inl (fun _ => 0)) 53) := k_newa_int (by decide +kernel : decode cX9_init 51 = .ok (.newarray .int, 2))
theorem oX9_init_53 : pm_okF cX9_init RX9 2 true 53 (s_putf 9 16 (.array .int) 56) := k_putF (C := RX9) (T := TX9) (N := 45) rfl inX9 tyX9_ok nmX9 (by decide) rfl rfl rfl (wk10 wb_5_172) (dk_putfield (by decide +kernel : bk3 cX9_init 53 181 31 = true))
theorem oX9_init_56 : pm_okF cX9_init RX9 2 true 56 (s_al 0 57) := k_aload_n (dk_aload_n_0 (by decide +kernel : bk1 cX9_init 56 42 = true)) rfl
theorem oX9_init_57 : pm_okF cX9_init RX9 2 true 57 (s_const (.int 30) 59) := k_bipush (dk_bipush (by decide +kernel : bkB cX9_init 57 16 30 = true)) (by decide)
theorem oX9_init_59 : pm_okF cX9_init RX9 2 true 59 (s_newa 0 (.inl (fun _ => 0)) 61) := k_newa_int (by decide +kernel : decode cX9_init 59 = .ok (.newarray .int, 2))
theorem oX9_init_61 : pm_okF cX9_init RX9 2 true 61 (s_putf 9 17 (.array .int) 64) := k_putF (C := RX9) (T := TX9) (N := 45) rfl inX9 tyX9_ok nmX9 (by decide) rfl rfl rfl (wk11 wb_5_172) (dk_putfield (by decide +kernel : bk3 cX9_init 61 181 34 = true))
theorem oX9_init_64 : pm_okF cX9_init RX9 2 true 64 (s_al 0 65) := k_aload_n (dk_aload_n_0 (by decide +kernel : bk1 cX9_init 64 42 = true)) rfl
theorem oX9_init_65 : pm_okF cX9_init RX9 2 true 65 (s_const (.int 80) 67) := k_bipush (dk_bipush (by decide +kernel : bkB cX9_init 65 16 80 = true)) (by decide)
theorem oX9_init_67 : pm_okF cX9_init RX9 2 true 67 (s_newa 0 (.inl (fun _ => 0)) 69) := k_newa_int (by decide +kernel : decode cX9_init 67 = .ok (.newarray .int, 2))
theorem oX9_init_69 : pm_okF cX9_init RX9 2 true 69 (s_putf 9 18 (.array .int) 72) := k_putF (C := RX9) (T := TX9) (N := 45) rfl inX9 tyX9_ok nmX9 (by decide) rfl rfl rfl (wk12 wb_5_172) (dk_putfield (by decide +kernel : bk3 cX9_init 69 181 37 = true))
theorem oX9_init_72 : pm_okF cX9_init RX9 2 true 72 (s_al 0 73) := k_aload_n (dk_aload_n_0 (by decide +kernel : bk1 cX9_init 72 42 = true)) rfl
theorem oX9_init_73 : pm_okF cX9_init RX9 2 true 73 (s_const (.int 80) 75) := k_bipush (dk_bipush (by decide +kernel : bkB cX9_init 73 16 80 = true)) (by decide)
theorem oX9_init_75 : pm_okF cX9_init RX9 2 true 75 (s_newa 0 (.inl (fun _ => 0)) 77) := k_newa_int (by decide +kernel : decode cX9_init 75 = .ok (.newarray .int, 2))
theorem oX9_init_77 : pm_okF cX9_init RX9 2 true 77 (s_putf 9 19 (.array .int) 80) := k_putF (C := RX9) (T := TX9) (N := 45) rfl inX9 tyX9_ok nmX9 (by decide) rfl rfl rfl (wk13 wb_5_172) (dk_putfield (by decide +kernel : bk3 cX9_init 77 181 40 = true))
theorem oX9_init_80 : pm_okF cX9_init RX9 2 true 80 (s_al 0 81) := k_aload_n (dk_aload_n_0 (by decide +kernel : bk1 cX9_init 80 42 = true)) rfl
theorem oX9_init_81 : pm_okF cX9_init RX9 2 true 81 (s_const (.int 300) 84) := k_sipush (dk_sipush (by decide +kernel : bkS cX9_init 81 17 300 = true)) (by decide)
theorem oX9_init_84 : pm_okF cX9_init RX9 2 true 84 (s_newa 0 (.inl (fun _ => 0)) 86) := k_newa_int (by decide +kernel : decode cX9_init 84 = .ok (.newarray .int, 2))
theorem oX9_init_86 : pm_okF cX9_init RX9 2 true 86 (s_putf 9 20 (.array .int) 89) := k_putF (C := RX9) (T := TX9) (N := 45) rfl inX9 tyX9_ok nmX9 (by decide) rfl rfl rfl (wk14 wb_5_172) (dk_putfield (by decide +kernel : bk3 cX9_init 86 181 43 = true))
theorem oX9_init_89 : pm_okF cX9_init RX9 2 true 89 (s_al 0 90) := k_aload_n (dk_aload_n_0 (by decide +kernel : bk1 cX9_init 89 42 = true)) rfl
theorem oX9_init_90 : pm_okF cX9_init RX9 2 true 90 (s_const (.int 3) 91) := k_iconst (dk_iconst_3 (by decide +kernel : bk1 cX9_init 90 6 = true)) (by decide)
theorem oX9_init_91 : pm_okF cX9_init RX9 2 true 91 (s_newa 2 (.inl (fun _ => 0)) 93) := k_newa_boolean (by decide +kernel : decode cX9_init 91 = .ok (.newarray .boolean, 2))
theorem oX9_init_93 : pm_okF cX9_init RX9 2 true 93 (s_putf 9 21 (.array .boolean) 96) := k_putF (C := RX9) (T := TX9) (N := 45) rfl inX9 tyX9_ok nmX9 (by decide) rfl rfl rfl (wk15 wb_5_172) (dk_putfield (by decide +kernel : bk3 cX9_init 93 181 46 = true))
theorem oX9_init_96 : pm_okF cX9_init RX9 2 true 96 (s_al 0 97) := k_aload_n (dk_aload_n_0 (by decide +kernel : bk1 cX9_init 96 42 = true)) rfl
theorem oX9_init_97 : pm_okF cX9_init RX9 2 true 97 (s_const (.int 8) 99) := k_bipush (dk_bipush (by decide +kernel : bkB cX9_init 97 16 8 = true)) (by decide)
theorem oX9_init_99 : pm_okF cX9_init RX9 2 true 99 (s_newa 0 (.inl (fun _ => 0)) 101) := k_newa_int (by decide +kernel : decode cX9_init 99 = .ok (.newarray .int, 2))
theorem oX9_init_101 : pm_okF cX9_init RX9 2 true 101 (s_putf 9 24 (.array .int) 104) := k_putF (C := RX9) (T := TX9) (N := 45) rfl inX9 tyX9_ok nmX9 (by decide) rfl rfl rfl (wk2 wb_5_188) (dk_putfield (by decide +kernel : bk3 cX9_init 101 181 50 = true))
theorem oX9_init_104 : pm_okF cX9_init RX9 2 true 104 (s_al 0 105) := k_aload_n (dk_aload_n_0 (by decide +kernel : bk1 cX9_init 104 42 = true)) rfl
theorem oX9_init_105 : pm_okF cX9_init RX9 2 true 105 (s_const (.int 10) 107) := k_bipush (dk_bipush (by decide +kernel : bkB cX9_init 105 16 10 = true)) (by decide)
theorem oX9_init_107 : pm_okF cX9_init RX9 2 true 107 (s_newa 0 (.inl (fun _ => 0)) 109) := k_newa_int (by decide +kernel : decode cX9_init 107 = .ok (.newarray .int, 2))
theorem oX9_init_109 : pm_okF cX9_init RX9 2 true 109 (s_putf 9 25 (.array .int) 112) := k_putF (C := RX9) (T := TX9) (N := 45) rfl inX9 tyX9_ok nmX9 (by decide) rfl rfl rfl (wk3 wb_5_188) (dk_putfield (by decide +kernel : bk3 cX9_init 109 181 53 = true))
theorem oX9_init_112 : pm_okF cX9_init RX9 2 true 112 (s_al 0 113) := k_aload_n (dk_aload_n_0 (by decide +kernel : bk1 cX9_init 112 42 = true)) rfl
theorem oX9_init_113 : pm_okF cX9_init RX9 2 true 113 (s_const (.int 8) 115) := k_bipush (dk_bipush (by decide +kernel : bkB cX9_init 113 16 8 = true)) (by decide)
theorem oX9_init_115 : pm_okF cX9_init RX9 2 true 115 (s_newa 0 (.inl (fun _ => 0)) 117) := k_newa_int (by decide +kernel : decode cX9_init 115 = .ok (.newarray .int, 2))
theorem oX9_init_117 : pm_okF cX9_init RX9 2 true 117 (s_putf 9 26 (.array .int) 120) := k_putF (C := RX9) (T := TX9) (N := 45) rfl inX9 tyX9_ok nmX9 (by decide) rfl rfl rfl (wk4 wb_5_188) (dk_putfield (by decide +kernel : bk3 cX9_init 117 181 56 = true))
theorem oX9_init_120 : pm_okF cX9_init RX9 2 true 120 (s_al 0 121) := k_aload_n (dk_aload_n_0 (by decide +kernel : bk1 cX9_init 120 42 = true)) rfl
theorem oX9_init_121 : pm_okF cX9_init RX9 2 true 121 (s_const (.int 9) 123) := k_bipush (dk_bipush (by decide +kernel : bkB cX9_init 121 16 9 = true)) (by decide)
theorem oX9_init_123 : pm_okF cX9_init RX9 2 true 123 (s_newa 0 (.inl (fun _ => 0)) 125) := k_newa_int (by decide +kernel : decode cX9_init 123 = .ok (.newarray .int, 2))
theorem oX9_init_125 : pm_okF cX9_init RX9 2 true 125 (s_putf 9 28 (.array .int) 128) := k_putF (C := RX9) (T := TX9) (N := 45) rfl inX9 tyX9_ok nmX9 (by decide) rfl rfl rfl (wk6 wb_5_188) (dk_putfield (by decide +kernel : bk3 cX9_init 125 181 59 = true))
theorem oX9_init_128 : pm_okF cX9_init RX9 2 true 128 (s_al 0 129) := k_aload_n (dk_aload_n_0 (by decide +kernel : bk1 cX9_init 128 42 = true)) rfl
theorem oX9_init_129 : pm_okF cX9_init RX9 2 true 129 (s_const (.int 9) 131) := k_bipush (dk_bipush (by decide +kernel : bkB cX9_init 129 16 9 = true)) (by decide)
theorem oX9_init_131 : pm_okF cX9_init RX9 2 true 131 (s_newa 0 (.inl (fun _ => 0)) 133) := k_newa_int (by decide +kernel : decode cX9_init 131 = .ok (.newarray .int, 2))
theorem oX9_init_133 : pm_okF cX9_init RX9 2 true 133 (s_putf 9 29 (.array .int) 136) := k_putF (C := RX9) (T := TX9) (N := 45) rfl inX9 tyX9_ok nmX9 (by decide) rfl rfl rfl (wk7 wb_5_188) (dk_putfield (by decide +kernel : bk3 cX9_init 133 181 62 = true))
theorem oX9_init_136 : pm_okF cX9_init RX9 2 true 136 (s_al 0 137) := k_aload_n (dk_aload_n_0 (by decide +kernel : bk1 cX9_init 136 42 = true)) rfl
theorem oX9_init_137 : pm_okF cX9_init RX9 2 true 137 (s_const (.int 9) 139) := k_bipush (dk_bipush (by decide +kernel : bkB cX9_init 137 16 9 = true)) (by decide)
theorem oX9_init_139 : pm_okF cX9_init RX9 2 true 139 (s_newa 0 (.inl (fun _ => 0)) 141) := k_newa_int (by decide +kernel : decode cX9_init 139 = .ok (.newarray .int, 2))
theorem oX9_init_141 : pm_okF cX9_init RX9 2 true 141 (s_putf 9 30 (.array .int) 144) := k_putF (C := RX9) (T := TX9) (N := 45) rfl inX9 tyX9_ok nmX9 (by decide) rfl rfl rfl (wk8 wb_5_188) (dk_putfield (by decide +kernel : bk3 cX9_init 141 181 65 = true))
theorem oX9_init_144 : pm_okF cX9_init RX9 2 true 144 (s_al 0 145) := k_aload_n (dk_aload_n_0 (by decide +kernel : bk1 cX9_init 144 42 = true)) rfl
theorem oX9_init_145 : pm_okF cX9_init RX9 2 true 145 (s_const (.int 8) 147) := k_bipush (dk_bipush (by decide +kernel : bkB cX9_init 145 16 8 = true)) (by decide)
theorem oX9_init_147 : pm_okF cX9_init RX9 2 true 147 (s_newa 0 (.inl (fun _ => 0)) 149) := k_newa_int (by decide +kernel : decode cX9_init 147 = .ok (.newarray .int, 2))
theorem oX9_init_149 : pm_okF cX9_init RX9 2 true 149 (s_putf 9 31 (.array .int) 152) := k_putF (C := RX9) (T := TX9) (N := 45) rfl inX9 tyX9_ok nmX9 (by decide) rfl rfl rfl (wk9 wb_5_188) (dk_putfield (by decide +kernel : bk3 cX9_init 149 181 68 = true))
theorem oX9_init_152 : pm_okF cX9_init RX9 2 true 152 (s_al 0 153) := k_aload_n (dk_aload_n_0 (by decide +kernel : bk1 cX9_init 152 42 = true)) rfl
theorem oX9_init_153 : pm_okF cX9_init RX9 2 true 153 (s_const (.int 18) 155) := k_bipush (dk_bipush (by decide +kernel : bkB cX9_init 153 16 18 = true)) (by decide)
theorem oX9_init_155 : pm_okF cX9_init RX9 2 true 155 (s_newa 0 (.inl (fun _ => 0)) 157) := k_newa_int (by decide +kernel : decode cX9_init 155 = .ok (.newarray .int, 2))
theorem oX9_init_157 : pm_okF cX9_init RX9 2 true 157 (s_putf 9 32 (.array .int) 160) := k_putF (C := RX9) (T := TX9) (N := 45) rfl inX9 tyX9_ok nmX9 (by decide) rfl rfl rfl (wk10 wb_5_188) (dk_putfield (by decide +kernel : bk3 cX9_init 157 181 71 = true))
theorem oX9_init_160 : pm_okF cX9_init RX9 2 true 160 (s_al 0 161) := k_aload_n (dk_aload_n_0 (by decide +kernel : bk1 cX9_init 160 42 = true)) rfl
theorem oX9_init_161 : pm_okF cX9_init RX9 2 true 161 (s_const (.int 8) 163) := k_bipush (dk_bipush (by decide +kernel : bkB cX9_init 161 16 8 = true)) (by decide)
theorem oX9_init_163 : pm_okF cX9_init RX9 2 true 163 (s_newa 0 (.inl (fun _ => 0)) 165) := k_newa_int (by decide +kernel : decode cX9_init 163 = .ok (.newarray .int, 2))
theorem oX9_init_165 : pm_okF cX9_init RX9 2 true 165 (s_putf 9 33 (.array .int) 168) := k_putF (C := RX9) (T := TX9) (N := 45) rfl inX9 tyX9_ok nmX9 (by decide) rfl rfl rfl (wk11 wb_5_188) (dk_putfield (by decide +kernel : bk3 cX9_init 165 181 74 = true))
theorem oX9_init_168 : pm_okF cX9_init RX9 2 true 168 (s_al 0 169) := k_aload_n (dk_aload_n_0 (by decide +kernel : bk1 cX9_init 168 42 = true)) rfl
theorem oX9_init_169 : pm_okF cX9_init RX9 2 true 169 (s_const (.int 9) 171) := k_bipush (dk_bipush (by decide +kernel : bkB cX9_init 169 16 9 = true)) (by decide)
theorem oX9_init_171 : pm_okF cX9_init RX9 2 true 171 (s_newa 0 (.inl (fun _ => 0)) 173) := k_newa_int (by decide +kernel : decode cX9_init 171 = .ok (.newarray .int, 2))
theorem oX9_init_173 : pm_okF cX9_init RX9 2 true 173 (s_putf 9 34 (.array .int) 176) := k_putF (C := RX9) (T := TX9) (N := 45) rfl inX9 tyX9_ok nmX9 (by decide) rfl rfl rfl (wk12 wb_5_188) (dk_putfield (by decide +kernel : bk3 cX9_init 173 181 77 = true))
theorem oX9_init_176 : pm_okF cX9_init RX9 2 true 176 (s_al 0 177) := k_aload_n (dk_aload_n_0 (by decide +kernel : bk1 cX9_init 176 42 = true)) rfl
theorem oX9_init_177 : pm_okF cX9_init RX9 2 true 177 (s_const (.int 5) 178) := k_iconst (dk_iconst_5 (by decide +kernel : bk1 cX9_init 177 8 = true)) (by decide)
theorem oX9_init_178 : pm_okF cX9_init RX9 2 true 178 (s_newa 0 (.inl (fun _ => 0)) 180) := k_newa_int (by decide +kernel : decode cX9_init 178 = .ok (.newarray .int, 2))
theorem oX9_init_180 : pm_okF cX9_init RX9 2 true 180 (s_putf 9 37 (.array .int) 183) := k_putF (C := RX9) (T := TX9) (N := 45) rfl inX9 tyX9_ok nmX9 (by decide) rfl rfl rfl (wk15 wb_5_188) (dk_putfield (by decide +kernel : bk3 cX9_init 180 181 80 = true))
theorem oX9_init_183 : pm_okF cX9_init RX9 2 true 183 (s_al 0 184) := k_aload_n (dk_aload_n_0 (by decide +kernel : bk1 cX9_init 183 42 = true)) rfl
theorem oX9_init_184 : pm_okF cX9_init RX9 2 true 184 (s_const (.int 6) 186) := k_bipush (dk_bipush (by decide +kernel : bkB cX9_init 184 16 6 = true)) (by decide)
theorem oX9_init_186 : pm_okF cX9_init RX9 2 true 186 (s_newa 0 (.inl (fun _ => 0)) 188) := k_newa_int (by decide +kernel : decode cX9_init 186 = .ok (.newarray .int, 2))
theorem oX9_init_188 : pm_okF cX9_init RX9 2 true 188 (s_putf 9 38 (.array .int) 191) := k_putF (C := RX9) (T := TX9) (N := 45) rfl inX9 tyX9_ok nmX9 (by decide) rfl rfl rfl (wk0 wb_5_204) (dk_putfield (by decide +kernel : bk3 cX9_init 188 181 83 = true))
theorem oX9_init_191 : pm_okF cX9_init RX9 2 true 191 (s_al 0 192) := k_aload_n (dk_aload_n_0 (by decide +kernel : bk1 cX9_init 191 42 = true)) rfl
theorem oX9_init_192 : pm_okF cX9_init RX9 2 true 192 (s_const (.int 10) 194) := k_bipush (dk_bipush (by decide +kernel : bkB cX9_init 192 16 10 = true)) (by decide)
theorem oX9_init_194 : pm_okF cX9_init RX9 2 true 194 (s_newa 0 (.inl (fun _ => 0)) 196) := k_newa_int (by decide +kernel : decode cX9_init 194 = .ok (.newarray .int, 2))
theorem oX9_init_196 : pm_okF cX9_init RX9 2 true 196 (s_putf 9 40 (.array .int) 199) := k_putF (C := RX9) (T := TX9) (N := 45) rfl inX9 tyX9_ok nmX9 (by decide) rfl rfl rfl (wk2 wb_5_204) (dk_putfield (by decide +kernel : bk3 cX9_init 196 181 86 = true))
theorem oX9_init_199 : pm_okF cX9_init RX9 2 true 199 (s_al 0 200) := k_aload_n (dk_aload_n_0 (by decide +kernel : bk1 cX9_init 199 42 = true)) rfl
theorem oX9_init_200 : pm_okF cX9_init RX9 2 true 200 (s_const (.int 72) 202) := k_bipush (dk_bipush (by decide +kernel : bkB cX9_init 200 16 72 = true)) (by decide)
theorem oX9_init_202 : pm_okF cX9_init RX9 2 true 202 (s_newa 0 (.inl (fun _ => 0)) 204) := k_newa_int (by decide +kernel : decode cX9_init 202 = .ok (.newarray .int, 2))
theorem oX9_init_204 : pm_okF cX9_init RX9 2 true 204 (s_putf 9 44 (.array .int) 207) := k_putF (C := RX9) (T := TX9) (N := 45) rfl inX9 tyX9_ok nmX9 (by decide) rfl rfl rfl (wk6 wb_5_204) (dk_putfield (by decide +kernel : bk3 cX9_init 204 181 89 = true))
theorem oX9_init_207 : pm_okF cX9_init RX9 2 true 207 (s_const (.int 0) 208) := k_iconst (dk_iconst_0 (by decide +kernel : bk1 cX9_init 207 3 = true)) (by decide)
theorem oX9_init_208 : pm_okF cX9_init RX9 2 true 208 (s_is 1 209) := k_istore_n (dk_istore_n_1 (by decide +kernel : bk1 cX9_init 208 60 = true)) rfl (by decide)
theorem oX9_init_209 : pm_okF cX9_init RX9 2 true 209 (s_il 1 210) := k_iload_n (dk_iload_n_1 (by decide +kernel : bk1 cX9_init 209 27 = true)) rfl
theorem oX9_init_210 : pm_okF cX9_init RX9 2 true 210 (s_const (.int 4) 211) := k_iconst (dk_iconst_4 (by decide +kernel : bk1 cX9_init 210 7 = true)) (by decide)
theorem oX9_init_211 : pm_okF cX9_init RX9 2 true 211 (s_icmp (fun x y => decide (y ≤ x)) 227 214) := k_icmp_ge (dk_if_icmp_ge (by decide +kernel : bkS cX9_init 211 162 16 = true)) (by decide)
theorem oX9_init_214 : pm_okF cX9_init RX9 2 true 214 (s_al 0 215) := k_aload_n (dk_aload_n_0 (by decide +kernel : bk1 cX9_init 214 42 = true)) rfl
theorem oX9_init_215 : pm_okF cX9_init RX9 2 true 215 (s_getf 9 1 218) := k_getf (C := RX9) (T := TX9) (N := 45) rfl inX9 (by decide) (wk11 wb_5_156) (dk_getfield (by decide +kernel : bk3 cX9_init 215 180 7 = true))
theorem oX9_init_218 : pm_okF cX9_init RX9 2 true 218 (s_il 1 219) := k_iload_n (dk_iload_n_1 (by decide +kernel : bk1 cX9_init 218 27 = true)) rfl
theorem oX9_init_219 : pm_okF cX9_init RX9 2 true 219 (s_const (.int (-1)) 220) := k_iconst (dk_iconst_m (by decide +kernel : bk1 cX9_init 219 2 = true)) (by decide)
theorem oX9_init_220 : pm_okF cX9_init RX9 2 true 220 (s_iast 221) := k_iast (dk_iastore (by decide +kernel : bk1 cX9_init 220 79 = true))
theorem oX9_init_221 : pm_okF cX9_init RX9 2 true 221 (s_inc 1 1 224) := k_iinc (dk_iinc (by decide +kernel : bkI cX9_init 221 132 1 1 = true)) (by decide) (by decide)
theorem oX9_init_224 : pm_okF cX9_init RX9 2 true 224 (s_goto 209) := k_goto (dk_goto (by decide +kernel : bkS cX9_init 224 167 (-15) = true)) (by decide)
theorem oX9_init_227 : pm_okR cX9_init none 227 0 := ⟨rfl, (dk_return (by decide +kernel : bk1 cX9_init 227 177 = true))⟩
set_option maxRecDepth 20000 in
theorem oX9_init : pm_okM pm_P iX9_init := ⟨rfl, fun _ => rfl, List.forall_mem_cons.mpr ⟨oX9_init_0, List.forall_mem_cons.mpr ⟨oX9_init_1, List.forall_mem_cons.mpr ⟨oX9_init_4, List.forall_mem_cons.mpr ⟨oX9_init_5, List.forall_mem_cons.mpr ⟨oX9_init_6, List.forall_mem_cons.mpr ⟨oX9_init_8, List.forall_mem_cons.mpr ⟨oX9_init_11, List.forall_mem_cons.mpr ⟨oX9_init_12, List.forall_mem_cons.mpr ⟨oX9_init_13, List.forall_mem_cons.mpr ⟨oX9_init_15, List.forall_mem_cons.mpr ⟨oX9_init_18, List.forall_mem_cons.mpr ⟨oX9_init_19, List.forall_mem_cons.mpr ⟨oX9_init_22, List.forall_mem_cons.mpr ⟨oX9_init_24, List.forall_mem_cons.mpr ⟨oX9_init_27, List.forall_mem_cons.mpr ⟨oX9_init_28, List.forall_mem_cons.mpr ⟨oX9_init_30, List.forall_mem_cons.mpr ⟨oX9_init_32, List.forall_mem_cons.mpr ⟨oX9_init_35, List.forall_mem_cons.mpr ⟨oX9_init_36, List.forall_mem_cons.mpr ⟨oX9_init_39, List.forall_mem_cons.mpr ⟨oX9_init_41, List.forall_mem_cons.mpr ⟨oX9_init_44, List.forall_mem_cons.mpr ⟨oX9_init_45, List.forall_mem_cons.mpr ⟨oX9_init_46, List.forall_mem_cons.mpr ⟨oX9_init_49, List.forall_mem_cons.mpr ⟨oX9_init_50, List.forall_mem_cons.mpr ⟨oX9_init_51, List.forall_mem_cons.mpr ⟨oX9_init_53, List.forall_mem_cons.mpr ⟨oX9_init_56, List.forall_mem_cons.mpr ⟨oX9_init_57, List.forall_mem_cons.mpr ⟨oX9_init_59, List.forall_mem_cons.mpr ⟨oX9_init_61, List.forall_mem_cons.mpr ⟨oX9_init_64, List.forall_mem_cons.mpr ⟨oX9_init_65, List.forall_mem_cons.mpr ⟨oX9_init_67, List.forall_mem_cons.mpr ⟨oX9_init_69, List.forall_mem_cons.mpr ⟨oX9_init_72, List.forall_mem_cons.mpr ⟨oX9_init_73, List.forall_mem_cons.mpr ⟨oX9_init_75, List.forall_mem_cons.mpr ⟨oX9_init_77, List.forall_mem_cons.mpr ⟨oX9_init_80, List.forall_mem_cons.mpr ⟨oX9_init_81, List.forall_mem_cons.mpr ⟨oX9_init_84, List.forall_mem_cons.mpr ⟨oX9_init_86, List.forall_mem_cons.mpr ⟨oX9_init_89, List.forall_mem_cons.mpr ⟨oX9_init_90, List.forall_mem_cons.mpr ⟨oX9_init_91, List.forall_mem_cons.mpr ⟨oX9_init_93, List.forall_mem_cons.mpr ⟨oX9_init_96, List.forall_mem_cons.mpr ⟨oX9_init_97, List.forall_mem_cons.mpr ⟨oX9_init_99, List.forall_mem_cons.mpr ⟨oX9_init_101, List.forall_mem_cons.mpr ⟨oX9_init_104, List.forall_mem_cons.mpr ⟨oX9_init_105, List.forall_mem_cons.mpr ⟨oX9_init_107, List.forall_mem_cons.mpr ⟨oX9_init_109, List.forall_mem_cons.mpr ⟨oX9_init_112, List.forall_mem_cons.mpr ⟨oX9_init_113, List.forall_mem_cons.mpr ⟨oX9_init_115, List.forall_mem_cons.mpr ⟨oX9_init_117, List.forall_mem_cons.mpr ⟨oX9_init_120, List.forall_mem_cons.mpr ⟨oX9_init_121, List.forall_mem_cons.mpr ⟨oX9_init_123, List.forall_mem_cons.mpr ⟨oX9_init_125, List.forall_mem_cons.mpr ⟨oX9_init_128, List.forall_mem_cons.mpr ⟨oX9_init_129, List.forall_mem_cons.mpr ⟨oX9_init_131, List.forall_mem_cons.mpr ⟨oX9_init_133, List.forall_mem_cons.mpr ⟨oX9_init_136, List.forall_mem_cons.mpr ⟨oX9_init_137, List.forall_mem_cons.mpr ⟨oX9_init_139, List.forall_mem_cons.mpr ⟨oX9_init_141, List.forall_mem_cons.mpr ⟨oX9_init_144, List.forall_mem_cons.mpr ⟨oX9_init_145, List.forall_mem_cons.mpr ⟨oX9_init_147, List.forall_mem_cons.mpr ⟨oX9_init_149, List.forall_mem_cons.mpr ⟨oX9_init_152, List.forall_mem_cons.mpr ⟨oX9_init_153, List.forall_mem_cons.mpr ⟨oX9_init_155, List.forall_mem_cons.mpr ⟨oX9_init_157, List.forall_mem_cons.mpr ⟨oX9_init_160, List.forall_mem_cons.mpr ⟨oX9_init_161, List.forall_mem_cons.mpr ⟨oX9_init_163, List.forall_mem_cons.mpr ⟨oX9_init_165, List.forall_mem_cons.mpr ⟨oX9_init_168, List.forall_mem_cons.mpr ⟨oX9_init_169, List.forall_mem_cons.mpr ⟨oX9_init_171, List.forall_mem_cons.mpr ⟨oX9_init_173, List.forall_mem_cons.mpr ⟨oX9_init_176, List.forall_mem_cons.mpr ⟨oX9_init_177, List.forall_mem_cons.mpr ⟨oX9_init_178, List.forall_mem_cons.mpr ⟨oX9_init_180, List.forall_mem_cons.mpr ⟨oX9_init_183, List.forall_mem_cons.mpr ⟨oX9_init_184, List.forall_mem_cons.mpr ⟨oX9_init_186, List.forall_mem_cons.mpr ⟨oX9_init_188, List.forall_mem_cons.mpr ⟨oX9_init_191, List.forall_mem_cons.mpr ⟨oX9_init_192, List.forall_mem_cons.mpr ⟨oX9_init_194, List.forall_mem_cons.mpr ⟨oX9_init_196, List.forall_mem_cons.mpr ⟨oX9_init_199, List.forall_mem_cons.mpr ⟨oX9_init_200, List.forall_mem_cons.mpr ⟨oX9_init_202, List.forall_mem_cons.mpr ⟨oX9_init_204, List.forall_mem_cons.mpr ⟨oX9_init_207, List.forall_mem_cons.mpr ⟨oX9_init_208, List.forall_mem_cons.mpr ⟨oX9_init_209, List.forall_mem_cons.mpr ⟨oX9_init_210, List.forall_mem_cons.mpr ⟨oX9_init_211, List.forall_mem_cons.mpr ⟨oX9_init_214, List.forall_mem_cons.mpr ⟨oX9_init_215, List.forall_mem_cons.mpr ⟨oX9_init_218, List.forall_mem_cons.mpr ⟨oX9_init_219, List.forall_mem_cons.mpr ⟨oX9_init_220, List.forall_mem_cons.mpr ⟨oX9_init_221, List.forall_mem_cons.mpr ⟨oX9_init_224, List.forall_mem_cons.mpr ⟨oX9_init_227, fun _ h => absurd h List.not_mem_nil⟩⟩⟩⟩⟩⟩⟩⟩⟩⟩⟩⟩⟩⟩⟩⟩⟩⟩⟩⟩⟩⟩⟩⟩⟩⟩⟩⟩⟩⟩⟩⟩⟩⟩⟩⟩⟩⟩⟩⟩⟩⟩⟩⟩⟩⟩⟩⟩⟩⟩⟩⟩⟩⟩⟩⟩⟩⟩⟩⟩⟩⟩⟩⟩⟩⟩⟩⟩⟩⟩⟩⟩⟩⟩⟩⟩⟩⟩⟩⟩⟩⟩⟩⟩⟩⟩⟩⟩⟩⟩⟩⟩⟩⟩⟩⟩⟩⟩⟩⟩⟩⟩⟩⟩⟩⟩⟩⟩⟩⟩⟩⟩⟩⟩⟩⟩⟩⟩⟩
set_option maxRecDepth 20000 in
theorem oX9_inversions : pm_okM pm_P iX9_inversions := rows_F (kd := 1) (plainFor_of_name pnRX9) rfl (abX9_inversions w0) poRX9_g pcRX9_g rfl (by decide +kernel)
set_option maxRecDepth 20000 in
theorem oX9_is : pm_okM pm_P iX9_is := rows_F (kd := 2) (plainFor_of_name pnRX9) rfl (abX9_is w0) poRX9_g pcRX9_g rfl (by decide +kernel)
set_option maxRecDepth 20000 in
theorem oX9_isBit : pm_okM pm_P iX9_isBit := rows_F (kd := 2) (plainFor_of_name pnRX9) rfl (abX9_isBit w0) poRX9_g pcRX9_g rfl (by decide +kernel)
set_option maxRecDepth 20000 in
theorem oX9_isByte : pm_okM pm_P iX9_isByte := rows_F (kd := 2) (plainFor_of_name pnRX9) rfl (abX9_isByte w0) poRX9_g pcRX9_g rfl (by decide +kernel)
set_option maxRecDepth 20000 in
theorem oX9_isCar : pm_okM pm_P iX9_isCar := rows_F (kd := 2) (plainFor_of_name pnRX9) rfl (abX9_isCar w0) poRX9_g pcRX9_g rfl (by decide +kernel)
set_option maxRecDepth 20000 in
theorem oX9_isFree : pm_okM pm_P iX9_isFree := rows_F (kd := 2) (plainFor_of_name pnRX9) rfl (abX9_isFree w0) poRX9_g pcRX9_g rfl (by decide +kernel)
set_option maxRecDepth 20000 in
theorem oX9_isGood : pm_okM pm_P iX9_isGood := rows_F (kd := 2) (plainFor_of_name pnRX9) rfl (abX9_isGood w0) poRX9_g pcRX9_g rfl (by decide +kernel)
set_option maxRecDepth 20000 in
theorem oX9_isHalf : pm_okM pm_P iX9_isHalf := rows_F (kd := 2) (plainFor_of_name pnRX9) rfl (abX9_isHalf w0) poRX9_g pcRX9_g rfl (by decide +kernel)
set_option maxRecDepth 20000 in
theorem oX9_isJoin : pm_okM pm_P iX9_isJoin := rows_F (kd := 2) (plainFor_of_name pnRX9) rfl (abX9_isJoin w0) poRX9_g pcRX9_g rfl (by decide +kernel)
set_option maxRecDepth 20000 in
theorem oX9_isLawful : pm_okM pm_P iX9_isLawful := rows_F (kd := 2) (plainFor_of_name pnRX9) rfl (abX9_isLawful w0) poRX9_g pcRX9_g rfl (by decide +kernel)
set_option maxRecDepth 20000 in
theorem oX9_isNode : pm_okM pm_P iX9_isNode := rows_F (kd := 2) (plainFor_of_name pnRX9) rfl (abX9_isNode w0) poRX9_g pcRX9_g rfl (by decide +kernel)
set_option maxRecDepth 20000 in
theorem oX9_isNumber : pm_okM pm_P iX9_isNumber := rows_F (kd := 2) (plainFor_of_name pnRX9) rfl (abX9_isNumber w0) poRX9_g pcRX9_g rfl (by decide +kernel)
set_option maxRecDepth 20000 in
theorem oX9_isOver : pm_okM pm_P iX9_isOver := rows_F (kd := 0) (plainFor_of_name pnRX9) rfl (abX9_isOver w0) poRX9_g pcRX9_g rfl (by decide +kernel)
set_option maxRecDepth 20000 in
theorem oX9_isPlace : pm_okM pm_P iX9_isPlace := rows_F (kd := 2) (plainFor_of_name pnRX9) rfl (abX9_isPlace w0) poRX9_g pcRX9_g rfl (by decide +kernel)
set_option maxRecDepth 20000 in
theorem oX9_isSeed : pm_okM pm_P iX9_isSeed := rows_F (kd := 2) (plainFor_of_name pnRX9) rfl (abX9_isSeed w0) poRX9_g pcRX9_g rfl (by decide +kernel)
set_option maxRecDepth 20000 in
theorem oX9_isSlot : pm_okM pm_P iX9_isSlot := rows_F (kd := 2) (plainFor_of_name pnRX9) rfl (abX9_isSlot w0) poRX9_g pcRX9_g rfl (by decide +kernel)
set_option maxRecDepth 20000 in
theorem oX9_isSmall : pm_okM pm_P iX9_isSmall := rows_F (kd := 2) (plainFor_of_name pnRX9) rfl (abX9_isSmall w0) poRX9_g pcRX9_g rfl (by decide +kernel)
set_option maxRecDepth 20000 in
theorem oX9_isSo : pm_okM pm_P iX9_isSo := rows_F (kd := 2) (plainFor_of_name pnRX9) rfl (abX9_isSo w0) poRX9_g pcRX9_g rfl (by decide +kernel)
set_option maxRecDepth 20000 in
theorem oX9_isStreet : pm_okM pm_P iX9_isStreet := rows_F (kd := 2) (plainFor_of_name pnRX9) rfl (abX9_isStreet w0) poRX9_g pcRX9_g rfl (by decide +kernel)
set_option maxRecDepth 20000 in
theorem oX9_joinLine : pm_okM pm_P iX9_joinLine := rows_F (kd := 0) (plainFor_of_name pnRX9) rfl (abX9_joinLine w0) poRX9_g pcRX9_g rfl (by decide +kernel)
end
section
/-! the rows are sound (written by tab2.py) -/
set_option maxRecDepth 20000 in
theorem oX9_joins0 : pm_okM pm_P iX9_joins0 := rows_F (kd := 0) (plainFor_of_name pnRX9) rfl (abX9_joins0 w0) poRX9_g pcRX9_g rfl (by decide +kernel)
set_option maxRecDepth 20000 in
theorem oX9_kids : pm_okM pm_P iX9_kids := rows_F (kd := 1) (plainFor_of_name pnRX9) rfl (abX9_kids w0) poRX9_g pcRX9_g rfl (by decide +kernel)
set_option maxRecDepth 20000 in
theorem oX9_kidsOf : pm_okM pm_P iX9_kidsOf := rows_F (kd := 1) (plainFor_of_name pnRX9) rfl (abX9_kidsOf w0) poRX9_g pcRX9_g rfl (by decide +kernel)
set_option maxRecDepth 20000 in
theorem oX9_label : pm_okM pm_P iX9_label := rows_F (kd := 1) (plainFor_of_name pnRX9) rfl (abX9_label w0) poRX9_g pcRX9_g rfl (by decide +kernel)
set_option maxRecDepth 20000 in
theorem oX9_labelAt : pm_okM pm_P iX9_labelAt := rows_F (kd := 1) (plainFor_of_name pnRX9) rfl (abX9_labelAt w0) poRX9_g pcRX9_g rfl (by decide +kernel)
set_option maxRecDepth 20000 in
theorem oX9_labelOf : pm_okM pm_P iX9_labelOf := rows_F (kd := 1) (plainFor_of_name pnRX9) rfl (abX9_labelOf w0) poRX9_g pcRX9_g rfl (by decide +kernel)
set_option maxRecDepth 20000 in
theorem oX9_labels : pm_okM pm_P iX9_labels := rows_F (kd := 1) (plainFor_of_name pnRX9) rfl (abX9_labels w0) poRX9_g pcRX9_g rfl (by decide +kernel)
set_option maxRecDepth 20000 in
theorem oX9_law : pm_okM pm_P iX9_law := rows_F (kd := 1) (plainFor_of_name pnRX9) rfl (abX9_law w0) poRX9_g pcRX9_g rfl (by decide +kernel)
set_option maxRecDepth 20000 in
theorem oX9_lawful : pm_okM pm_P iX9_lawful := rows_F (kd := 1) (plainFor_of_name pnRX9) rfl (abX9_lawful w0) poRX9_g pcRX9_g rfl (by decide +kernel)
set_option maxRecDepth 20000 in
theorem oX9_laws : pm_okM pm_P iX9_laws := rows_F (kd := 1) (plainFor_of_name pnRX9) rfl (abX9_laws w0) poRX9_g pcRX9_g rfl (by decide +kernel)
set_option maxRecDepth 20000 in
theorem oX9_lays : pm_okM pm_P iX9_lays := rows_F (kd := 0) (plainFor_of_name pnRX9) rfl (abX9_lays w0) poRX9_g pcRX9_g rfl (by decide +kernel)
set_option maxRecDepth 20000 in
theorem oX9_laysBlocks : pm_okM pm_P iX9_laysBlocks := rows_F (kd := 0) (plainFor_of_name pnRX9) rfl (abX9_laysBlocks w0) poRX9_g pcRX9_g rfl (by decide +kernel)
set_option maxRecDepth 20000 in
theorem oX9_laysCode : pm_okM pm_P iX9_laysCode := rows_F (kd := 0) (plainFor_of_name pnRX9) rfl (abX9_laysCode w0) poRX9_g pcRX9_g rfl (by decide +kernel)
set_option maxRecDepth 20000 in
theorem oX9_laysNow : pm_okM pm_P iX9_laysNow := rows_F (kd := 0) (plainFor_of_name pnRX9) rfl (abX9_laysNow w0) poRX9_g pcRX9_g rfl (by decide +kernel)
set_option maxRecDepth 20000 in
theorem oX9_laysSeen : pm_okM pm_P iX9_laysSeen := rows_F (kd := 0) (plainFor_of_name pnRX9) rfl (abX9_laysSeen w0) poRX9_g pcRX9_g rfl (by decide +kernel)
set_option maxRecDepth 20000 in
theorem oX9_laysSlot : pm_okM pm_P iX9_laysSlot := rows_F (kd := 0) (plainFor_of_name pnRX9) rfl (abX9_laysSlot w0) poRX9_g pcRX9_g rfl (by decide +kernel)
set_option maxRecDepth 20000 in
theorem oX9_laysTree : pm_okM pm_P iX9_laysTree := rows_F (kd := 0) (plainFor_of_name pnRX9) rfl (abX9_laysTree w0) poRX9_g pcRX9_g rfl (by decide +kernel)
set_option maxRecDepth 20000 in
theorem oX9_leaves : pm_okM pm_P iX9_leaves := rows_F (kd := 1) (plainFor_of_name pnRX9) rfl (abX9_leaves w0) poRX9_g pcRX9_g rfl (by decide +kernel)
set_option maxRecDepth 20000 in
theorem oX9_lessOf : pm_okM pm_P iX9_lessOf := rows_F (kd := 1) (plainFor_of_name pnRX9) rfl (abX9_lessOf w0) poRX9_g pcRX9_g rfl (by decide +kernel)
end
section
/-! the rows are sound (written by tab2.py) -/
set_option maxRecDepth 20000 in
theorem oX9_likes : pm_okM pm_P iX9_likes := rows_F (kd := 1) (plainFor_of_name pnRX9) rfl (abX9_likes w0) poRX9_g pcRX9_g rfl (by decide +kernel)
set_option maxRecDepth 20000 in
theorem oX9_limbsOf : pm_okM pm_P iX9_limbsOf := rows_F (kd := 1) (plainFor_of_name pnRX9) rfl (abX9_limbsOf w0) poRX9_g pcRX9_g rfl (by decide +kernel)
set_option maxRecDepth 20000 in
theorem oX9_lineHere : pm_okM pm_P iX9_lineHere := rows_F (kd := 0) (plainFor_of_name pnRX9) rfl (abX9_lineHere w0) poRX9_g pcRX9_g rfl (by decide +kernel)
set_option maxRecDepth 20000 in
theorem oX9_lost : pm_okM pm_P iX9_lost := rows_F (kd := 1) (plainFor_of_name pnRX9) rfl (abX9_lost w0) poRX9_g pcRX9_g rfl (by decide +kernel)
set_option maxRecDepth 20000 in
theorem oX9_luck : pm_okM pm_P iX9_luck := rows_F (kd := 1) (plainFor_of_name pnRX9) rfl (abX9_luck w0) poRX9_g pcRX9_g rfl (by decide +kernel)
set_option maxRecDepth 20000 in
theorem oX9_lucky : pm_okM pm_P iX9_lucky := rows_F (kd := 1) (plainFor_of_name pnRX9) rfl (abX9_lucky w0) poRX9_g pcRX9_g rfl (by decide +kernel)
set_option maxRecDepth 20000 in
theorem oX9_may : pm_okM pm_P iX9_may := rows_F (kd := 1) (plainFor_of_name pnRX9) rfl (abX9_may w0) poRX9_g pcRX9_g rfl (by decide +kernel)
set_option maxRecDepth 20000 in
theorem oX9_mayJoin : pm_okM pm_P iX9_mayJoin := rows_F (kd := 2) (plainFor_of_name pnRX9) rfl (abX9_mayJoin w0) poRX9_g pcRX9_g rfl (by decide +kernel)
set_option maxRecDepth 20000 in
theorem oX9_mean : pm_okM pm_P iX9_mean := rows_F (kd := 3) (plainFor_of_name pnRX9) rfl (abX9_mean w0) poRX9_g pcRX9_g rfl (by decide +kernel)
set_option maxRecDepth 20000 in
theorem oX9_mend : pm_okM pm_P iX9_mend := rows_F (kd := 1) (plainFor_of_name pnRX9) rfl (abX9_mend w0) poRX9_g pcRX9_g rfl (by decide +kernel)
set_option maxRecDepth 20000 in
theorem oX9_merged : pm_okM pm_P iX9_merged := rows_F (kd := 1) (plainFor_of_name pnRX9) rfl (abX9_merged w0) poRX9_g pcRX9_g rfl (by decide +kernel)
set_option maxRecDepth 20000 in
theorem oX9_moreOf : pm_okM pm_P iX9_moreOf := rows_F (kd := 1) (plainFor_of_name pnRX9) rfl (abX9_moreOf w0) poRX9_g pcRX9_g rfl (by decide +kernel)
set_option maxRecDepth 20000 in
theorem oX9_moved : pm_okM pm_P iX9_moved := rows_F (kd := 1) (plainFor_of_name pnRX9) rfl (abX9_moved w0) poRX9_g pcRX9_g rfl (by decide +kernel)
set_option maxRecDepth 20000 in
theorem oX9_next : pm_okM pm_P iX9_next := rows_F (kd := 1) (plainFor_of_name pnRX9) rfl (abX9_next w0) poRX9_g pcRX9_g rfl (by decide +kernel)
set_option maxRecDepth 20000 in
theorem oX9_number : pm_okM pm_P iX9_number := rows_F (kd := 1) (plainFor_of_name pnRX9) rfl (abX9_number w0) poRX9_g pcRX9_g rfl (by decide +kernel)
set_option maxRecDepth 20000 in
theorem oX9_number_ : pm_okM pm_P iX9_number_ := rows_F (kd := 1) (plainFor_of_name pnRX9) rfl (abX9_number_ w0) poRX9_g pcRX9_g rfl (by decide +kernel)
set_option maxRecDepth 20000 in
theorem oX9_otherEnd : pm_okM pm_P iX9_otherEnd := rows_F (kd := 1) (plainFor_of_name pnRX9) rfl (abX9_otherEnd w0) poRX9_g pcRX9_g rfl (by decide +kernel)
set_option maxRecDepth 20000 in
theorem oX9_parent : pm_okM pm_P iX9_parent := rows_F (kd := 1) (plainFor_of_name pnRX9) rfl (abX9_parent w0) poRX9_g pcRX9_g rfl (by decide +kernel)
set_option maxRecDepth 20000 in
theorem oX9_parks : pm_okM pm_P iX9_parks := rows_F (kd := 0) (plainFor_of_name pnRX9) rfl (abX9_parks w0) poRX9_g pcRX9_g rfl (by decide +kernel)
end
section
/-! the rows are sound (written by tab2.py) -/
set_option maxRecDepth 20000 in
theorem oX9_parksBy : pm_okM pm_P iX9_parksBy := rows_F (kd := 0) (plainFor_of_name pnRX9) rfl (abX9_parksBy w0) poRX9_g pcRX9_g rfl (by decide +kernel)
set_option maxRecDepth 20000 in
theorem oX9_partOf : pm_okM pm_P iX9_partOf := rows_F (kd := 3) (plainFor_of_name pnRX9) rfl (abX9_partOf w0) poRX9_g pcRX9_g rfl (by decide +kernel)
set_option maxRecDepth 20000 in
theorem oX9_paste : pm_okM pm_P iX9_paste := rows_F (kd := 1) (plainFor_of_name pnRX9) rfl (abX9_paste w0) poRX9_g pcRX9_g rfl (by decide +kernel)
set_option maxRecDepth 20000 in
theorem oX9_place : pm_okM pm_P iX9_place := rows_F (kd := 1) (plainFor_of_name pnRX9) rfl (abX9_place w0) poRX9_g pcRX9_g rfl (by decide +kernel)
set_option maxRecDepth 20000 in
theorem oX9_places : pm_okM pm_P iX9_places := rows_F (kd := 1) (plainFor_of_name pnRX9) rfl (abX9_places w0) poRX9_g pcRX9_g rfl (by decide +kernel)
set_option maxRecDepth 20000 in
theorem oX9_power : pm_okM pm_P iX9_power := rows_F (kd := 3) (plainFor_of_name pnRX9) rfl (abX9_power w0) poRX9_g pcRX9_g rfl (by decide +kernel)
set_option maxRecDepth 20000 in
theorem oX9_prime : pm_okM pm_P iX9_prime := rows_F (kd := 1) (plainFor_of_name pnRX9) rfl (abX9_prime w0) poRX9_g pcRX9_g rfl (by decide +kernel)
set_option maxRecDepth 20000 in
theorem oX9_queue : pm_okM pm_P iX9_queue := rows_F (kd := 1) (plainFor_of_name pnRX9) rfl (abX9_queue w0) poRX9_g pcRX9_g rfl (by decide +kernel)
set_option maxRecDepth 20000 in
theorem oX9_rate : pm_okM pm_P iX9_rate := rows_F (kd := 1) (plainFor_of_name pnRX9) rfl (abX9_rate w0) poRX9_g pcRX9_g rfl (by decide +kernel)
set_option maxRecDepth 20000 in
theorem oX9_reads0 : pm_okM pm_P iX9_reads0 := rows_F (kd := 0) (plainFor_of_name pnRX9) rfl (abX9_reads0 w0) poRX9_g pcRX9_g rfl (by decide +kernel)
set_option maxRecDepth 20000 in
theorem oX9_regain : pm_okM pm_P iX9_regain := rows_F (kd := 1) (plainFor_of_name pnRX9) rfl (abX9_regain w0) poRX9_g pcRX9_g rfl (by decide +kernel)
set_option maxRecDepth 20000 in
theorem oX9_region : pm_okM pm_P iX9_region := rows_F (kd := 1) (plainFor_of_name pnRX9) rfl (abX9_region w0) poRX9_g pcRX9_g rfl (by decide +kernel)
set_option maxRecDepth 20000 in
theorem oX9_remain : pm_okM pm_P iX9_remain := rows_F (kd := 1) (plainFor_of_name pnRX9) rfl (abX9_remain w0) poRX9_g pcRX9_g rfl (by decide +kernel)
set_option maxRecDepth 20000 in
theorem oX9_rests : pm_okM pm_P iX9_rests := rows_F (kd := 1) (plainFor_of_name pnRX9) rfl (abX9_rests w0) poRX9_g pcRX9_g rfl (by decide +kernel)
set_option maxRecDepth 20000 in
theorem oX9_ring : pm_okM pm_P iX9_ring := rows_F (kd := 1) (plainFor_of_name pnRX9) rfl (abX9_ring w0) poRX9_g pcRX9_g rfl (by decide +kernel)
set_option maxRecDepth 20000 in
theorem oX9_ringFree : pm_okM pm_P iX9_ringFree := rows_F (kd := 1) (plainFor_of_name pnRX9) rfl (abX9_ringFree w0) poRX9_g pcRX9_g rfl (by decide +kernel)
set_option maxRecDepth 20000 in
theorem oX9_roots : pm_okM pm_P iX9_roots := rows_F (kd := 0) (plainFor_of_name pnRX9) rfl (abX9_roots w0) poRX9_g pcRX9_g rfl (by decide +kernel)
end
section
/-! the rows are sound (written by tab2.py) -/
set_option maxRecDepth 20000 in
theorem oX9_row : pm_okM pm_P iX9_row := rows_F (kd := 1) (plainFor_of_name pnRX9) rfl (abX9_row w0) poRX9_g pcRX9_g rfl (by decide +kernel)
set_option maxRecDepth 20000 in
theorem oX9_rows : pm_okM pm_P iX9_rows := rows_F (kd := 1) (plainFor_of_name pnRX9) rfl (abX9_rows w0) poRX9_g pcRX9_g rfl (by decide +kernel)
set_option maxRecDepth 20000 in
theorem oX9_rowsBy : pm_okM pm_P iX9_rowsBy := rows_F (kd := 1) (plainFor_of_name pnRX9) rfl (abX9_rowsBy w0) poRX9_g pcRX9_g rfl (by decide +kernel)
set_option maxRecDepth 20000 in
theorem oX9_runs : pm_okM pm_P iX9_runs := rows_F (kd := 1) (plainFor_of_name pnRX9) rfl (abX9_runs w0) poRX9_g pcRX9_g rfl (by decide +kernel)
set_option maxRecDepth 20000 in
theorem oX9_searches : pm_okM pm_P iX9_searches := rows_F (kd := 0) (plainFor_of_name pnRX9) rfl (abX9_searches w0) poRX9_g pcRX9_g rfl (by decide +kernel)
set_option maxRecDepth 20000 in
theorem oX9_seenPlace : pm_okM pm_P iX9_seenPlace := rows_F (kd := 1) (plainFor_of_name pnRX9) rfl (abX9_seenPlace w0) poRX9_g pcRX9_g rfl (by decide +kernel)
set_option maxRecDepth 20000 in
theorem oX9_share : pm_okM pm_P iX9_share := rows_F (kd := 1) (plainFor_of_name pnRX9) rfl (abX9_share w0) poRX9_g pcRX9_g rfl (by decide +kernel)
set_option maxRecDepth 20000 in
theorem oX9_shifted : pm_okM pm_P iX9_shifted := rows_F (kd := 1) (plainFor_of_name pnRX9) rfl (abX9_shifted w0) poRX9_g pcRX9_g rfl (by decide +kernel)
set_option maxRecDepth 20000 in
theorem oX9_shiftedOf : pm_okM pm_P iX9_shiftedOf := rows_F (kd := 1) (plainFor_of_name pnRX9) rfl (abX9_shiftedOf w0) poRX9_g pcRX9_g rfl (by decide +kernel)
set_option maxRecDepth 20000 in
theorem oX9_shifts : pm_okM pm_P iX9_shifts := rows_F (kd := 1) (plainFor_of_name pnRX9) rfl (abX9_shifts w0) poRX9_g pcRX9_g rfl (by decide +kernel)
set_option maxRecDepth 20000 in
theorem oX9_sizeOf : pm_okM pm_P iX9_sizeOf := rows_F (kd := 1) (plainFor_of_name pnRX9) rfl (abX9_sizeOf w0) poRX9_g pcRX9_g rfl (by decide +kernel)
set_option maxRecDepth 20000 in
theorem oX9_smallSteps : pm_okM pm_P iX9_smallSteps := rows_F (kd := 1) (plainFor_of_name pnRX9) rfl (abX9_smallSteps w0) poRX9_g pcRX9_g rfl (by decide +kernel)
set_option maxRecDepth 20000 in
theorem oX9_sorted : pm_okM pm_P iX9_sorted := rows_F (kd := 1) (plainFor_of_name pnRX9) rfl (abX9_sorted w0) poRX9_g pcRX9_g rfl (by decide +kernel)
set_option maxRecDepth 20000 in
theorem oX9_stands : pm_okM pm_P iX9_stands := rows_F (kd := 1) (plainFor_of_name pnRX9) rfl (abX9_stands w0) poRX9_g pcRX9_g rfl (by decide +kernel)
set_option maxRecDepth 20000 in
theorem oX9_steps : pm_okM pm_P iX9_steps := rows_F (kd := 1) (plainFor_of_name pnRX9) rfl (abX9_steps w0) poRX9_g pcRX9_g rfl (by decide +kernel)
set_option maxRecDepth 20000 in
theorem oX9_stepsOf : pm_okM pm_P iX9_stepsOf := rows_F (kd := 1) (plainFor_of_name pnRX9) rfl (abX9_stepsOf w0) poRX9_g pcRX9_g rfl (by decide +kernel)
set_option maxRecDepth 20000 in
theorem oX9_street : pm_okM pm_P iX9_street := rows_F (kd := 1) (plainFor_of_name pnRX9) rfl (abX9_street w0) poRX9_g pcRX9_g rfl (by decide +kernel)
set_option maxRecDepth 20000 in
theorem oX9_sum : pm_okM pm_P iX9_sum := rows_F (kd := 1) (plainFor_of_name pnRX9) rfl (abX9_sum w0) poRX9_g pcRX9_g rfl (by decide +kernel)
set_option maxRecDepth 20000 in
theorem oX9_sumNow : pm_okM pm_P iX9_sumNow := rows_F (kd := 1) (plainFor_of_name pnRX9) rfl (abX9_sumNow w0) poRX9_g pcRX9_g rfl (by decide +kernel)
set_option maxRecDepth 20000 in
theorem oX9_swap : pm_okM pm_P iX9_swap := rows_F (kd := 1) (plainFor_of_name pnRX9) rfl (abX9_swap w0) poRX9_g pcRX9_g rfl (by decide +kernel)
end
section
/-! the rows are sound (written by tab2.py) -/
set_option maxRecDepth 20000 in
theorem oX9_takesWord : pm_okM pm_P iX9_takesWord := rows_F (kd := 2) (plainFor_of_name pnRX9) rfl (abX9_takesWord w0) poRX9_g pcRX9_g rfl (by decide +kernel)
set_option maxRecDepth 20000 in
theorem oX9_tells : pm_okM pm_P iX9_tells := rows_F (kd := 0) (plainFor_of_name pnRX9) rfl (abX9_tells w0) poRX9_g pcRX9_g rfl (by decide +kernel)
set_option maxRecDepth 20000 in
theorem oX9_times : pm_okM pm_P iX9_times := rows_F (kd := 1) (plainFor_of_name pnRX9) rfl (abX9_times w0) poRX9_g pcRX9_g rfl (by decide +kernel)
set_option maxRecDepth 20000 in
theorem oX9_trade : pm_okM pm_P iX9_trade := rows_F (kd := 0) (plainFor_of_name pnRX9) rfl (abX9_trade w0) poRX9_g pcRX9_g rfl (by decide +kernel)
set_option maxRecDepth 20000 in
theorem oX9_trades : pm_okM pm_P iX9_trades := rows_F (kd := 1) (plainFor_of_name pnRX9) rfl (abX9_trades w0) poRX9_g pcRX9_g rfl (by decide +kernel)
set_option maxRecDepth 20000 in
theorem oX9_trees : pm_okM pm_P iX9_trees := rows_F (kd := 1) (plainFor_of_name pnRX9) rfl (abX9_trees w0) poRX9_g pcRX9_g rfl (by decide +kernel)
set_option maxRecDepth 20000 in
theorem oX9_turned : pm_okM pm_P iX9_turned := rows_F (kd := 1) (plainFor_of_name pnRX9) rfl (abX9_turned w0) poRX9_g pcRX9_g rfl (by decide +kernel)
set_option maxRecDepth 20000 in
theorem oX9_turnedIn : pm_okM pm_P iX9_turnedIn := rows_F (kd := 1) (plainFor_of_name pnRX9) rfl (abX9_turnedIn w0) poRX9_g pcRX9_g rfl (by decide +kernel)
set_option maxRecDepth 20000 in
theorem oX9_undo : pm_okM pm_P iX9_undo := rows_F (kd := 1) (plainFor_of_name pnRX9) rfl (abX9_undo w0) poRX9_g pcRX9_g rfl (by decide +kernel)
set_option maxRecDepth 20000 in
theorem oX9_upset : pm_okM pm_P iX9_upset := rows_F (kd := 1) (plainFor_of_name pnRX9) rfl (abX9_upset w0) poRX9_g pcRX9_g rfl (by decide +kernel)
set_option maxRecDepth 20000 in
theorem oX9_visit : pm_okM pm_P iX9_visit := rows_F (kd := 1) (plainFor_of_name pnRX9) rfl (abX9_visit w0) poRX9_g pcRX9_g rfl (by decide +kernel)
set_option maxRecDepth 20000 in
theorem oX9_wanting : pm_okM pm_P iX9_wanting := rows_F (kd := 1) (plainFor_of_name pnRX9) rfl (abX9_wanting w0) poRX9_g pcRX9_g rfl (by decide +kernel)
set_option maxRecDepth 20000 in
theorem oX9_wants : pm_okM pm_P iX9_wants := rows_F (kd := 1) (plainFor_of_name pnRX9) rfl (abX9_wants w0) poRX9_g pcRX9_g rfl (by decide +kernel)
set_option maxRecDepth 20000 in
theorem oX9_weightOf : pm_okM pm_P iX9_weightOf := rows_F (kd := 3) (plainFor_of_name pnRX9) rfl (abX9_weightOf w0) poRX9_g pcRX9_g rfl (by decide +kernel)
set_option maxRecDepth 20000 in
theorem oX9_whyNot : pm_okM pm_P iX9_whyNot := rows_F (kd := 1) (plainFor_of_name pnRX9) rfl (abX9_whyNot w0) poRX9_g pcRX9_g rfl (by decide +kernel)
set_option maxRecDepth 20000 in
theorem oX9_whyNotCode : pm_okM pm_P iX9_whyNotCode := rows_F (kd := 1) (plainFor_of_name pnRX9) rfl (abX9_whyNotCode w0) poRX9_g pcRX9_g rfl (by decide +kernel)
set_option maxRecDepth 20000 in
theorem oX9_wish : pm_okM pm_P iX9_wish := rows_F (kd := 1) (plainFor_of_name pnRX9) rfl (abX9_wish w0) poRX9_g pcRX9_g rfl (by decide +kernel)
set_option maxRecDepth 20000 in
theorem oX9_withJoin : pm_okM pm_P iX9_withJoin := rows_F (kd := 1) (plainFor_of_name pnRX9) rfl (abX9_withJoin w0) poRX9_g pcRX9_g rfl (by decide +kernel)
set_option maxRecDepth 20000 in
theorem oX9_worst : pm_okM pm_P iX9_worst := rows_F (kd := 1) (plainFor_of_name pnRX9) rfl (abX9_worst w0) poRX9_g pcRX9_g rfl (by decide +kernel)
set_option maxRecDepth 20000 in
theorem oX9_worstBy : pm_okM pm_P iX9_worstBy := rows_F (kd := 1) (plainFor_of_name pnRX9) rfl (abX9_worstBy w0) poRX9_g pcRX9_g rfl (by decide +kernel)
end
section
/-! the rows are sound (written by tab2.py) -/
set_option maxRecDepth 20000 in
theorem oX9_worth : pm_okM pm_P iX9_worth := rows_F (kd := 1) (plainFor_of_name pnRX9) rfl (abX9_worth w0) poRX9_g pcRX9_g rfl (by decide +kernel)
set_option maxRecDepth 20000 in
theorem oX9_worthOf : pm_okM pm_P iX9_worthOf := rows_F (kd := 1) (plainFor_of_name pnRX9) rfl (abX9_worthOf w0) poRX9_g pcRX9_g rfl (by decide +kernel)
set_option maxRecDepth 20000 in
theorem oX9_write : pm_okM pm_P iX9_write := rows_F (kd := 1) (plainFor_of_name pnRX9) rfl (abX9_write w0) poRX9_g pcRX9_g rfl (by decide +kernel)
end
