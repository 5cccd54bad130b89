section
/-! the rows are sound (written by tab2.py) -/
set_option maxRecDepth 20000 in
theorem oX9_four : pm_okM pm_P iX9_four := rows_M (kd := 0) rfl (fun h => by cases h) (abX9_four w0) poRX9_g pcRX9_g rfl (by decide +kernel)
set_option maxRecDepth 20000 in
theorem oX9_free : pm_okM pm_P iX9_free := rows_M (kd := 1) rfl (fun h => by cases h) (abX9_free w0) poRX9_g pcRX9_g rfl (by decide +kernel)
set_option maxRecDepth 20000 in
theorem oX9_gets : pm_okM pm_P iX9_gets := rows_M (kd := 1) rfl (fun h => by cases h) (abX9_gets w0) poRX9_g pcRX9_g rfl (by decide +kernel)
set_option maxRecDepth 20000 in
theorem oX9_getsBy : pm_okM pm_P iX9_getsBy := rows_M (kd := 1) rfl (fun h => by cases h) (abX9_getsBy w0) poRX9_g pcRX9_g rfl (by decide +kernel)
theorem oX9_goesOn_0 : pm_okF cX9_goesOn RX9 3 false 0 (s_al 0 1) := k_aload_n (dk_aload_n_0 (by decide +kernel : bk1 cX9_goesOn 0 42 = true)) rfl
theorem oX9_goesOn_1 : ∃ I : pm_M, pm_at pm_P 224 = some I ∧ I.2.2.2.2.2.1 = 0 ∧ I.2.2.2.2.2.2.1 = 0 ∧ pm_okC cX9_goesOn RX9 3 false 1 I.1 I.2.1 I.2.2.1 I.2.2.2.1 1 (some 9) 0 0 := ⟨iX9_cars, aiX9_cars, rfl, rfl, k_callV (n := 0) (T := TX9) (N := 45) (dk_invokevirtual (by decide +kernel : bk3 cX9_goesOn 1 182 242 = true)) rfl w_6_229 w_6_226 w_6_228 w_0_84 w_1_10 (by decide +kernel) (by decide) (by decide)⟩
theorem oX9_goesOn_4 : pm_okF cX9_goesOn RX9 3 false 4 (s_const (.int 1) 5) := k_iconst (dk_iconst_1 (by decide +kernel : bk1 cX9_goesOn 4 4 = true)) (by decide)
theorem oX9_goesOn_5 : pm_okF cX9_goesOn RX9 3 false 5 (s_bin (fun x y => x - y) 6) := k_isub (dk_isub (by decide +kernel : bk1 cX9_goesOn 5 100 = true))
theorem oX9_goesOn_6 : pm_okF cX9_goesOn RX9 3 false 6 (s_is 2 7) := k_istore_n (dk_istore_n_2 (by decide +kernel : bk1 cX9_goesOn 6 61 = true)) rfl (by decide)
theorem oX9_goesOn_7 : pm_okF cX9_goesOn RX9 3 false 7 (s_il 2 8) := k_iload_n (dk_iload_n_2 (by decide +kernel : bk1 cX9_goesOn 7 28 = true)) rfl
theorem oX9_goesOn_8 : pm_okF cX9_goesOn RX9 3 false 8 (s_if (fun x => decide (x < 0)) 103 11) := k_if_lt (dk_ifCond_lt (by decide +kernel : bkS cX9_goesOn 8 155 95 = true)) (by decide)
theorem oX9_goesOn_11 : pm_okF cX9_goesOn RX9 3 false 11 (s_al 0 12) := k_aload_n (dk_aload_n_0 (by decide +kernel : bk1 cX9_goesOn 11 42 = true)) rfl
theorem oX9_goesOn_12 : pm_okF cX9_goesOn RX9 3 false 12 (s_getf 9 35 15) := k_getf (C := RX9) (T := TX9) (N := 45) rfl inX9 (by decide) w_5_201 (dk_getfield (by decide +kernel : bk3 cX9_goesOn 12 180 340 = true))
theorem oX9_goesOn_15 : pm_okF cX9_goesOn RX9 3 false 15 (s_il 2 16) := k_iload_n (dk_iload_n_2 (by decide +kernel : bk1 cX9_goesOn 15 28 = true)) rfl
theorem oX9_goesOn_16 : ∃ I : pm_M, pm_at pm_P 265 = some I ∧ I.2.2.2.2.2.1 = 0 ∧ I.2.2.2.2.2.2.1 = 0 ∧ pm_okC cX9_goesOn RX9 3 false 16 I.1 I.2.1 I.2.2.1 I.2.2.2.1 2 (none) 0 0 := ⟨iX9_isBit, aiX9_isBit, rfl, rfl, k_callS (n := 2) (dk_invokestatic (by decide +kernel : bk3 cX9_goesOn 16 184 274 = true)) w_7_15 w_7_13 w_7_14 w_1_10 (by decide +kernel) (by decide)⟩
theorem oX9_goesOn_19 : pm_okF cX9_goesOn RX9 3 false 19 (s_if (fun x => decide (x = 0)) 25 22) := k_if_eq (dk_ifCond_eq (by decide +kernel : bkS cX9_goesOn 19 153 6 = true)) (by decide)
theorem oX9_goesOn_22 : pm_okF cX9_goesOn RX9 3 false 22 (s_goto 97) := k_goto (dk_goto (by decide +kernel : bkS cX9_goesOn 22 167 75 = true)) (by decide)
theorem oX9_goesOn_25 : pm_okF cX9_goesOn RX9 3 false 25 (s_al 0 26) := k_aload_n (dk_aload_n_0 (by decide +kernel : bk1 cX9_goesOn 25 42 = true)) rfl
theorem oX9_goesOn_26 : pm_okF cX9_goesOn RX9 3 false 26 (s_getf 9 33 29) := k_getf (C := RX9) (T := TX9) (N := 45) rfl inX9 (by decide) w_5_199 (dk_getfield (by decide +kernel : bk3 cX9_goesOn 26 180 74 = true))
theorem oX9_goesOn_29 : pm_okF cX9_goesOn RX9 3 false 29 (s_il 2 30) := k_iload_n (dk_iload_n_2 (by decide +kernel : bk1 cX9_goesOn 29 28 = true)) rfl
theorem oX9_goesOn_30 : pm_okF cX9_goesOn RX9 3 false 30 (s_iald 31) := k_iald (dk_iaload (by decide +kernel : bk1 cX9_goesOn 30 46 = true))
theorem oX9_goesOn_31 : pm_okF cX9_goesOn RX9 3 false 31 (s_if (fun x => decide (x ≤ 0)) 47 34) := k_if_le (dk_ifCond_le (by decide +kernel : bkS cX9_goesOn 31 158 16 = true)) (by decide)
theorem oX9_goesOn_34 : pm_okF cX9_goesOn RX9 3 false 34 (s_al 0 35) := k_aload_n (dk_aload_n_0 (by decide +kernel : bk1 cX9_goesOn 34 42 = true)) rfl
theorem oX9_goesOn_35 : pm_okF cX9_goesOn RX9 3 false 35 (s_getf 9 33 38) := k_getf (C := RX9) (T := TX9) (N := 45) rfl inX9 (by decide) w_5_199 (dk_getfield (by decide +kernel : bk3 cX9_goesOn 35 180 74 = true))
theorem oX9_goesOn_38 : pm_okF cX9_goesOn RX9 3 false 38 (s_il 2 39) := k_iload_n (dk_iload_n_2 (by decide +kernel : bk1 cX9_goesOn 38 28 = true)) rfl
theorem oX9_goesOn_39 : pm_okF cX9_goesOn RX9 3 false 39 (s_dup2 40) := k_dup2 (dk_dup2 (by decide +kernel : bk1 cX9_goesOn 39 92 = true))
theorem oX9_goesOn_40 : pm_okF cX9_goesOn RX9 3 false 40 (s_iald 41) := k_iald (dk_iaload (by decide +kernel : bk1 cX9_goesOn 40 46 = true))
theorem oX9_goesOn_41 : pm_okF cX9_goesOn RX9 3 false 41 (s_const (.int 1) 42) := k_iconst (dk_iconst_1 (by decide +kernel : bk1 cX9_goesOn 41 4 = true)) (by decide)
theorem oX9_goesOn_42 : pm_okF cX9_goesOn RX9 3 false 42 (s_bin (fun x y => x - y) 43) := k_isub (dk_isub (by decide +kernel : bk1 cX9_goesOn 42 100 = true))
theorem oX9_goesOn_43 : pm_okF cX9_goesOn RX9 3 false 43 (s_iast 44) := k_iast (dk_iastore (by decide +kernel : bk1 cX9_goesOn 43 79 = true))
theorem oX9_goesOn_44 : pm_okF cX9_goesOn RX9 3 false 44 (s_goto 97) := k_goto (dk_goto (by decide +kernel : bkS cX9_goesOn 44 167 53 = true)) (by decide)
theorem oX9_goesOn_47 : pm_okF cX9_goesOn RX9 3 false 47 (s_al 0 48) := k_aload_n (dk_aload_n_0 (by decide +kernel : bk1 cX9_goesOn 47 42 = true)) rfl
theorem oX9_goesOn_48 : pm_okF cX9_goesOn RX9 3 false 48 (s_dup 49) := k_dup (dk_dup (by decide +kernel : bk1 cX9_goesOn 48 89 = true))
theorem oX9_goesOn_49 : pm_okF cX9_goesOn RX9 3 false 49 (s_getf 9 35 52) := k_getf (C := RX9) (T := TX9) (N := 45) rfl inX9 (by decide) w_5_201 (dk_getfield (by decide +kernel : bk3 cX9_goesOn 49 180 340 = true))
theorem oX9_goesOn_52 : pm_okF cX9_goesOn RX9 3 false 52 (s_const (.int 1) 53) := k_iconst (dk_iconst_1 (by decide +kernel : bk1 cX9_goesOn 52 4 = true)) (by decide)
theorem oX9_goesOn_53 : pm_okF cX9_goesOn RX9 3 false 53 (s_il 2 54) := k_iload_n (dk_iload_n_2 (by decide +kernel : bk1 cX9_goesOn 53 28 = true)) rfl
theorem oX9_goesOn_54 : pm_okF cX9_goesOn RX9 3 false 54 (s_bin (fun x y => x <<< (y &&& 31)) 55) := k_ishl (dk_ishl (by decide +kernel : bk1 cX9_goesOn 54 120 = true))
theorem oX9_goesOn_55 : pm_okF cX9_goesOn RX9 3 false 55 (s_bin (fun x y => x ||| y) 56) := k_ior (dk_ior (by decide +kernel : bk1 cX9_goesOn 55 128 = true))
theorem oX9_goesOn_56 : pm_okF cX9_goesOn RX9 3 false 56 (s_putf 9 35 (.int) 59) := k_putf (C := RX9) (T := TX9) (N := 45) rfl inX9 tyX9_ok nmX9 (by decide) rfl rfl w_5_201 (dk_putfield (by decide +kernel : bk3 cX9_goesOn 56 181 340 = true))
theorem oX9_goesOn_59 : pm_okF cX9_goesOn RX9 3 false 59 (s_al 0 60) := k_aload_n (dk_aload_n_0 (by decide +kernel : bk1 cX9_goesOn 59 42 = true)) rfl
theorem oX9_goesOn_60 : pm_okF cX9_goesOn RX9 3 false 60 (s_getf 9 28 63) := k_getf (C := RX9) (T := TX9) (N := 45) rfl inX9 (by decide) w_5_194 (dk_getfield (by decide +kernel : bk3 cX9_goesOn 60 180 59 = true))
theorem oX9_goesOn_63 : pm_okF cX9_goesOn RX9 3 false 63 (s_il 2 64) := k_iload_n (dk_iload_n_2 (by decide +kernel : bk1 cX9_goesOn 63 28 = true)) rfl
theorem oX9_goesOn_64 : pm_okF cX9_goesOn RX9 3 false 64 (s_const (.int 1) 65) := k_iconst (dk_iconst_1 (by decide +kernel : bk1 cX9_goesOn 64 4 = true)) (by decide)
theorem oX9_goesOn_65 : pm_okF cX9_goesOn RX9 3 false 65 (s_bin (fun x y => x + y) 66) := k_iadd (dk_iadd (by decide +kernel : bk1 cX9_goesOn 65 96 = true))
theorem oX9_goesOn_66 : pm_okF cX9_goesOn RX9 3 false 66 (s_il 1 67) := k_iload_n (dk_iload_n_1 (by decide +kernel : bk1 cX9_goesOn 66 27 = true)) rfl
theorem oX9_goesOn_67 : pm_okF cX9_goesOn RX9 3 false 67 (s_iast 68) := k_iast (dk_iastore (by decide +kernel : bk1 cX9_goesOn 67 79 = true))
theorem oX9_goesOn_68 : pm_okF cX9_goesOn RX9 3 false 68 (s_al 0 69) := k_aload_n (dk_aload_n_0 (by decide +kernel : bk1 cX9_goesOn 68 42 = true)) rfl
theorem oX9_goesOn_69 : pm_okF cX9_goesOn RX9 3 false 69 (s_getf 9 34 72) := k_getf (C := RX9) (T := TX9) (N := 45) rfl inX9 (by decide) w_5_200 (dk_getfield (by decide +kernel : bk3 cX9_goesOn 69 180 77 = true))
theorem oX9_goesOn_72 : pm_okF cX9_goesOn RX9 3 false 72 (s_al 0 73) := k_aload_n (dk_aload_n_0 (by decide +kernel : bk1 cX9_goesOn 72 42 = true)) rfl
theorem oX9_goesOn_73 : pm_okF cX9_goesOn RX9 3 false 73 (s_getf 9 36 76) := k_getf (C := RX9) (T := TX9) (N := 45) rfl inX9 (by decide) w_5_202 (dk_getfield (by decide +kernel : bk3 cX9_goesOn 73 180 343 = true))
theorem oX9_goesOn_76 : pm_okF cX9_goesOn RX9 3 false 76 (s_il 2 77) := k_iload_n (dk_iload_n_2 (by decide +kernel : bk1 cX9_goesOn 76 28 = true)) rfl
theorem oX9_goesOn_77 : pm_okF cX9_goesOn RX9 3 false 77 (s_const (.int 1) 78) := k_iconst (dk_iconst_1 (by decide +kernel : bk1 cX9_goesOn 77 4 = true)) (by decide)
theorem oX9_goesOn_78 : pm_okF cX9_goesOn RX9 3 false 78 (s_bin (fun x y => x + y) 79) := k_iadd (dk_iadd (by decide +kernel : bk1 cX9_goesOn 78 96 = true))
theorem oX9_goesOn_79 : pm_okF cX9_goesOn RX9 3 false 79 (s_iast 80) := k_iast (dk_iastore (by decide +kernel : bk1 cX9_goesOn 79 79 = true))
theorem oX9_goesOn_80 : pm_okF cX9_goesOn RX9 3 false 80 (s_al 0 81) := k_aload_n (dk_aload_n_0 (by decide +kernel : bk1 cX9_goesOn 80 42 = true)) rfl
theorem oX9_goesOn_81 : pm_okF cX9_goesOn RX9 3 false 81 (s_dup 82) := k_dup (dk_dup (by decide +kernel : bk1 cX9_goesOn 81 89 = true))
theorem oX9_goesOn_82 : pm_okF cX9_goesOn RX9 3 false 82 (s_getf 9 36 85) := k_getf (C := RX9) (T := TX9) (N := 45) rfl inX9 (by decide) w_5_202 (dk_getfield (by decide +kernel : bk3 cX9_goesOn 82 180 343 = true))
theorem oX9_goesOn_85 : pm_okF cX9_goesOn RX9 3 false 85 (s_const (.int 1) 86) := k_iconst (dk_iconst_1 (by decide +kernel : bk1 cX9_goesOn 85 4 = true)) (by decide)
theorem oX9_goesOn_86 : pm_okF cX9_goesOn RX9 3 false 86 (s_bin (fun x y => x + y) 87) := k_iadd (dk_iadd (by decide +kernel : bk1 cX9_goesOn 86 96 = true))
theorem oX9_goesOn_87 : pm_okF cX9_goesOn RX9 3 false 87 (s_putf 9 36 (.int) 90) := k_putf (C := RX9) (T := TX9) (N := 45) rfl inX9 tyX9_ok nmX9 (by decide) rfl rfl w_5_202 (dk_putfield (by decide +kernel : bk3 cX9_goesOn 87 181 343 = true))
theorem oX9_goesOn_90 : pm_okF cX9_goesOn RX9 3 false 90 (s_al 0 91) := k_aload_n (dk_aload_n_0 (by decide +kernel : bk1 cX9_goesOn 90 42 = true)) rfl
theorem oX9_goesOn_91 : pm_okF cX9_goesOn RX9 3 false 91 (s_il 2 92) := k_iload_n (dk_iload_n_2 (by decide +kernel : bk1 cX9_goesOn 91 28 = true)) rfl
theorem oX9_goesOn_92 : pm_okF cX9_goesOn RX9 3 false 92 (s_const (.int 1) 93) := k_iconst (dk_iconst_1 (by decide +kernel : bk1 cX9_goesOn 92 4 = true)) (by decide)
theorem oX9_goesOn_93 : pm_okF cX9_goesOn RX9 3 false 93 (s_bin (fun x y => x + y) 94) := k_iadd (dk_iadd (by decide +kernel : bk1 cX9_goesOn 93 96 = true))
theorem oX9_goesOn_94 : ∃ I : pm_M, pm_at pm_P 256 = some I ∧ I.2.2.2.2.2.1 = 0 ∧ I.2.2.2.2.2.2.1 = 0 ∧ pm_okC cX9_goesOn RX9 3 false 94 I.1 I.2.1 I.2.2.1 I.2.2.2.1 2 (some 9) 0 0 := ⟨iX9_goesOn, aiX9_goesOn, rfl, rfl, k_callV (n := 1) (T := TX9) (N := 45) (dk_invokevirtual (by decide +kernel : bk3 cX9_goesOn 94 182 346 = true)) rfl w_7_202 w_7_199 w_7_201 w_0_109 w_1_10 (by decide +kernel) (by decide) (by decide)⟩
theorem oX9_goesOn_97 : pm_okF cX9_goesOn RX9 3 false 97 (s_inc 2 (-1) 100) := k_iinc (dk_iinc (by decide +kernel : bkI cX9_goesOn 97 132 2 (-1) = true)) (by decide) (by decide)
theorem oX9_goesOn_100 : pm_okF cX9_goesOn RX9 3 false 100 (s_goto 7) := k_goto (dk_goto (by decide +kernel : bkS cX9_goesOn 100 167 (-93) = true)) (by decide)
theorem oX9_goesOn_103 : pm_okR cX9_goesOn none 103 0 := ⟨rfl, (dk_return (by decide +kernel : bk1 cX9_goesOn 103 177 = true))⟩
set_option maxRecDepth 20000 in
theorem oX9_goesOn : pm_okM pm_P iX9_goesOn := ⟨rfl, (fun h => by cases h), List.forall_mem_cons.mpr ⟨oX9_goesOn_0, List.forall_mem_cons.mpr ⟨oX9_goesOn_1, List.forall_mem_cons.mpr ⟨oX9_goesOn_4, List.forall_mem_cons.mpr ⟨oX9_goesOn_5, List.forall_mem_cons.mpr ⟨oX9_goesOn_6, List.forall_mem_cons.mpr ⟨oX9_goesOn_7, List.forall_mem_cons.mpr ⟨oX9_goesOn_8, List.forall_mem_cons.mpr ⟨oX9_goesOn_11, List.forall_mem_cons.mpr ⟨oX9_goesOn_12, List.forall_mem_cons.mpr ⟨oX9_goesOn_15, List.forall_mem_cons.mpr ⟨oX9_goesOn_16, List.forall_mem_cons.mpr ⟨oX9_goesOn_19, List.forall_mem_cons.mpr ⟨oX9_goesOn_22, List.forall_mem_cons.mpr ⟨oX9_goesOn_25, List.forall_mem_cons.mpr ⟨oX9_goesOn_26, List.forall_mem_cons.mpr ⟨oX9_goesOn_29, List.forall_mem_cons.mpr ⟨oX9_goesOn_30, List.forall_mem_cons.mpr ⟨oX9_goesOn_31, List.forall_mem_cons.mpr ⟨oX9_goesOn_34, List.forall_mem_cons.mpr ⟨oX9_goesOn_35, List.forall_mem_cons.mpr ⟨oX9_goesOn_38, List.forall_mem_cons.mpr ⟨oX9_goesOn_39, List.forall_mem_cons.mpr ⟨oX9_goesOn_40, List.forall_mem_cons.mpr ⟨oX9_goesOn_41, List.forall_mem_cons.mpr ⟨oX9_goesOn_42, List.forall_mem_cons.mpr ⟨oX9_goesOn_43, List.forall_mem_cons.mpr ⟨oX9_goesOn_44, List.forall_mem_cons.mpr ⟨oX9_goesOn_47, List.forall_mem_cons.mpr ⟨oX9_goesOn_48, List.forall_mem_cons.mpr ⟨oX9_goesOn_49, List.forall_mem_cons.mpr ⟨oX9_goesOn_52, List.forall_mem_cons.mpr ⟨oX9_goesOn_53, List.forall_mem_cons.mpr ⟨oX9_goesOn_54, List.forall_mem_cons.mpr ⟨oX9_goesOn_55, List.forall_mem_cons.mpr ⟨oX9_goesOn_56, List.forall_mem_cons.mpr ⟨oX9_goesOn_59, List.forall_mem_cons.mpr ⟨oX9_goesOn_60, List.forall_mem_cons.mpr ⟨oX9_goesOn_63, List.forall_mem_cons.mpr ⟨oX9_goesOn_64, List.forall_mem_cons.mpr ⟨oX9_goesOn_65, List.forall_mem_cons.mpr ⟨oX9_goesOn_66, List.forall_mem_cons.mpr ⟨oX9_goesOn_67, List.forall_mem_cons.mpr ⟨oX9_goesOn_68, List.forall_mem_cons.mpr ⟨oX9_goesOn_69, List.forall_mem_cons.mpr ⟨oX9_goesOn_72, List.forall_mem_cons.mpr ⟨oX9_goesOn_73, List.forall_mem_cons.mpr ⟨oX9_goesOn_76, List.forall_mem_cons.mpr ⟨oX9_goesOn_77, List.forall_mem_cons.mpr ⟨oX9_goesOn_78, List.forall_mem_cons.mpr ⟨oX9_goesOn_79, List.forall_mem_cons.mpr ⟨oX9_goesOn_80, List.forall_mem_cons.mpr ⟨oX9_goesOn_81, List.forall_mem_cons.mpr ⟨oX9_goesOn_82, List.forall_mem_cons.mpr ⟨oX9_goesOn_85, List.forall_mem_cons.mpr ⟨oX9_goesOn_86, List.forall_mem_cons.mpr ⟨oX9_goesOn_87, List.forall_mem_cons.mpr ⟨oX9_goesOn_90, List.forall_mem_cons.mpr ⟨oX9_goesOn_91, List.forall_mem_cons.mpr ⟨oX9_goesOn_92, List.forall_mem_cons.mpr ⟨oX9_goesOn_93, List.forall_mem_cons.mpr ⟨oX9_goesOn_94, List.forall_mem_cons.mpr ⟨oX9_goesOn_97, List.forall_mem_cons.mpr ⟨oX9_goesOn_100, List.forall_mem_cons.mpr ⟨oX9_goesOn_103, fun _ h => absurd h List.not_mem_nil⟩⟩⟩⟩⟩⟩⟩⟩⟩⟩⟩⟩⟩⟩⟩⟩⟩⟩⟩⟩⟩⟩⟩⟩⟩⟩⟩⟩⟩⟩⟩⟩⟩⟩⟩⟩⟩⟩⟩⟩⟩⟩⟩⟩⟩⟩⟩⟩⟩⟩⟩⟩⟩⟩⟩⟩⟩⟩⟩⟩⟩⟩⟩⟩⟩
theorem oX9_hasRead_0 : pm_okF cX9_hasRead RX9 2 false 0 (s_al 0 1) := k_aload_n (dk_aload_n_0 (by decide +kernel : bk1 cX9_hasRead 0 42 = true)) rfl
theorem oX9_hasRead_1 : pm_okF cX9_hasRead RX9 2 false 1 (s_getf 9 17 4) := k_getf (C := RX9) (T := TX9) (N := 45) rfl inX9 (by decide) w_5_183 (dk_getfield (by decide +kernel : bk3 cX9_hasRead 1 180 34 = true))
theorem oX9_hasRead_4 : pm_okF cX9_hasRead RX9 2 false 4 (s_const (.int 24) 6) := k_bipush (dk_bipush (by decide +kernel : bkB cX9_hasRead 4 16 24 = true)) (by decide)
theorem oX9_hasRead_6 : pm_okF cX9_hasRead RX9 2 false 6 (s_il 1 7) := k_iload_n (dk_iload_n_1 (by decide +kernel : bk1 cX9_hasRead 6 27 = true)) rfl
theorem oX9_hasRead_7 : pm_okF cX9_hasRead RX9 2 false 7 (s_bin (fun x y => x + y) 8) := k_iadd (dk_iadd (by decide +kernel : bk1 cX9_hasRead 7 96 = true))
theorem oX9_hasRead_8 : pm_okF cX9_hasRead RX9 2 false 8 (s_iald 9) := k_iald (dk_iaload (by decide +kernel : bk1 cX9_hasRead 8 46 = true))
theorem oX9_hasRead_9 : pm_okR cX9_hasRead (some .int) 9 1 := ⟨rfl, (dk_ireturn (by decide +kernel : bk1 cX9_hasRead 9 172 = true))⟩
set_option maxRecDepth 20000 in
theorem oX9_hasRead : pm_okM pm_P iX9_hasRead := ⟨rfl, (fun h => by cases h), List.forall_mem_cons.mpr ⟨oX9_hasRead_0, List.forall_mem_cons.mpr ⟨oX9_hasRead_1, List.forall_mem_cons.mpr ⟨oX9_hasRead_4, List.forall_mem_cons.mpr ⟨oX9_hasRead_6, List.forall_mem_cons.mpr ⟨oX9_hasRead_7, List.forall_mem_cons.mpr ⟨oX9_hasRead_8, List.forall_mem_cons.mpr ⟨oX9_hasRead_9, fun _ h => absurd h List.not_mem_nil⟩⟩⟩⟩⟩⟩⟩⟩
set_option maxRecDepth 20000 in
theorem oX9_holder : pm_okM pm_P iX9_holder := rows_M (kd := 1) rfl (fun h => by cases h) (abX9_holder w0) poRX9_g pcRX9_g rfl (by decide +kernel)
set_option maxRecDepth 20000 in
theorem oX9_hole : pm_okM pm_P iX9_hole := rows_M (kd := 1) rfl (fun h => by cases h) (abX9_hole w0) poRX9_g pcRX9_g rfl (by decide +kernel)
set_option maxRecDepth 20000 in
theorem oX9_image : pm_okM pm_P iX9_image := rows_M (kd := 1) rfl (fun h => by cases h) (abX9_image w0) poRX9_g pcRX9_g rfl (by decide +kernel)
set_option maxRecDepth 20000 in
theorem oX9_in : pm_okM pm_P iX9_in := rows_M (kd := 2) rfl (fun h => by cases h) (abX9_in w0) poRX9_g pcRX9_g rfl (by decide +kernel)
theorem oX9_init_0 : pm_okF cX9_init RX9 2 true 0 (s_al 0 1) := k_aload_n (dk_aload_n_0 (by decide +kernel : bk1 cX9_init 0 42 = true)) rfl
theorem oX9_init_1 : pm_okF cX9_init RX9 2 true 1 (s_obj 4) := k_obj w_5_165 w_1_24 w_1_25 (dk_invokespecial (by decide +kernel : bk3 cX9_init 1 183 1 = true))
theorem oX9_init_4 : pm_okF cX9_init RX9 2 true 4 (s_al 0 5) := k_aload_n (dk_aload_n_0 (by decide +kernel : bk1 cX9_init 4 42 = true)) rfl
theorem oX9_init_5 : pm_okF cX9_init RX9 2 true 5 (s_const (.int 4) 6) := k_iconst (dk_iconst_4 (by decide +kernel : bk1 cX9_init 5 7 = true)) (by decide)
theorem oX9_init_6 : pm_okF cX9_init RX9 2 true 6 (s_newa 0 (.inl (fun _ => 0)) 8) := k_newa_int (by decide +kernel : decode cX9_init 6 = .ok (.newarray .int, 2))
theorem oX9_init_8 : pm_okF cX9_init RX9 2 true 8 (s_putf 9 1 (.array .int) 11) := k_putF (C := RX9) (T := TX9) (N := 45) rfl inX9 tyX9_ok nmX9 (by decide) rfl rfl rfl w_5_167 (dk_putfield (by decide +kernel : bk3 cX9_init 8 181 7 = true))
theorem oX9_init_11 : pm_okF cX9_init RX9 2 true 11 (s_al 0 12) := k_aload_n (dk_aload_n_0 (by decide +kernel : bk1 cX9_init 11 42 = true)) rfl
theorem oX9_init_12 : pm_okF cX9_init RX9 2 true 12 (s_const (.int 4) 13) := k_iconst (dk_iconst_4 (by decide +kernel : bk1 cX9_init 12 7 = true)) (by decide)
theorem oX9_init_13 : pm_okF cX9_init RX9 2 true 13 (s_newa 0 (.inl (fun _ => 0)) 15) := k_newa_int (by decide +kernel : decode cX9_init 13 = .ok (.newarray .int, 2))
theorem oX9_init_15 : pm_okF cX9_init RX9 2 true 15 (s_putf 9 2 (.array .int) 18) := k_putF (C := RX9) (T := TX9) (N := 45) rfl inX9 tyX9_ok nmX9 (by decide) rfl rfl rfl w_5_168 (dk_putfield (by decide +kernel : bk3 cX9_init 15 181 13 = true))
theorem oX9_init_18 : pm_okF cX9_init RX9 2 true 18 (s_al 0 19) := k_aload_n (dk_aload_n_0 (by decide +kernel : bk1 cX9_init 18 42 = true)) rfl
theorem oX9_init_19 : pm_okF cX9_init RX9 2 true 19 (s_const (.int 240) 22) := k_sipush (dk_sipush (by decide +kernel : bkS cX9_init 19 17 240 = true)) (by decide)
theorem oX9_init_22 : pm_okF cX9_init RX9 2 true 22 (s_newa 3 (.inr (.inl (fun _ => 0))) 24) := k_newa_long (by decide +kernel : decode cX9_init 22 = .ok (.newarray .long, 2))
theorem oX9_init_24 : pm_okF cX9_init RX9 2 true 24 (s_putf 9 3 (.array .long) 27) := k_putF (C := RX9) (T := TX9) (N := 45) rfl inX9 tyX9_ok nmX9 (by decide) rfl rfl rfl w_5_169 (dk_putfield (by decide +kernel : bk3 cX9_init 24 181 16 = true))
theorem oX9_init_27 : pm_okF cX9_init RX9 2 true 27 (s_al 0 28) := k_aload_n (dk_aload_n_0 (by decide +kernel : bk1 cX9_init 27 42 = true)) rfl
theorem oX9_init_28 : pm_okF cX9_init RX9 2 true 28 (s_const (.int 60) 30) := k_bipush (dk_bipush (by decide +kernel : bkB cX9_init 28 16 60 = true)) (by decide)
theorem oX9_init_30 : pm_okF cX9_init RX9 2 true 30 (s_newa 3 (.inr (.inl (fun _ => 0))) 32) := k_newa_long (by decide +kernel : decode cX9_init 30 = .ok (.newarray .long, 2))
theorem oX9_init_32 : pm_okF cX9_init RX9 2 true 32 (s_putf 9 4 (.array .long) 35) := k_putF (C := RX9) (T := TX9) (N := 45) rfl inX9 tyX9_ok nmX9 (by decide) rfl rfl rfl w_5_170 (dk_putfield (by decide +kernel : bk3 cX9_init 32 181 20 = true))
theorem oX9_init_35 : pm_okF cX9_init RX9 2 true 35 (s_al 0 36) := k_aload_n (dk_aload_n_0 (by decide +kernel : bk1 cX9_init 35 42 = true)) rfl
theorem oX9_init_36 : pm_okF cX9_init RX9 2 true 36 (s_const (.int 500) 39) := k_sipush (dk_sipush (by decide +kernel : bkS cX9_init 36 17 500 = true)) (by decide)
theorem oX9_init_39 : pm_okF cX9_init RX9 2 true 39 (s_newa 1 (.inl (fun _ => 0)) 41) := k_newa_byte (by decide +kernel : decode cX9_init 39 = .ok (.newarray .byte, 2))
theorem oX9_init_41 : pm_okF cX9_init RX9 2 true 41 (s_putf 9 5 (.array .byte) 44) := k_putF (C := RX9) (T := TX9) (N := 45) rfl inX9 tyX9_ok nmX9 (by decide) rfl rfl rfl w_5_171 (dk_putfield (by decide +kernel : bk3 cX9_init 41 181 23 = true))
theorem oX9_init_44 : pm_okF cX9_init RX9 2 true 44 (s_al 0 45) := k_aload_n (dk_aload_n_0 (by decide +kernel : bk1 cX9_init 44 42 = true)) rfl
theorem oX9_init_45 : pm_okF cX9_init RX9 2 true 45 (s_const (.int (-1)) 46) := k_iconst (dk_iconst_m (by decide +kernel : bk1 cX9_init 45 2 = true)) (by decide)
theorem oX9_init_46 : pm_okF cX9_init RX9 2 true 46 (s_putf 9 15 (.int) 49) := k_putf (C := RX9) (T := TX9) (N := 45) rfl inX9 tyX9_ok nmX9 (by decide) rfl rfl w_5_181 (dk_putfield (by decide +kernel : bk3 cX9_init 46 181 27 = true))
theorem oX9_init_49 : pm_okF cX9_init RX9 2 true 49 (s_al 0 50) := k_aload_n (dk_aload_n_0 (by decide +kernel : bk1 cX9_init 49 42 = true)) rfl
theorem oX9_init_50 : pm_okF cX9_init RX9 2 true 50 (s_const (.int 5) 51) := k_iconst (dk_iconst_5 (by decide +kernel : bk1 cX9_init 50 8 = true)) (by decide)
theorem oX9_init_51 : pm_okF cX9_init RX9 2 true 51 (s_newa 0 (.inl (fun _ => 0)) 53) := k_newa_int (by decide +kernel : decode cX9_init 51 = .ok (.newarray .int, 2))
theorem oX9_init_53 : pm_okF cX9_init RX9 2 true 53 (s_putf 9 16 (.array .int) 56) := k_putF (C := RX9) (T := TX9) (N := 45) rfl inX9 tyX9_ok nmX9 (by decide) rfl rfl rfl w_5_182 (dk_putfield (by decide +kernel : bk3 cX9_init 53 181 31 = true))
theorem oX9_init_56 : pm_okF cX9_init RX9 2 true 56 (s_al 0 57) := k_aload_n (dk_aload_n_0 (by decide +kernel : bk1 cX9_init 56 42 = true)) rfl
theorem oX9_init_57 : pm_okF cX9_init RX9 2 true 57 (s_const (.int 30) 59) := k_bipush (dk_bipush (by decide +kernel : bkB cX9_init 57 16 30 = true)) (by decide)
theorem oX9_init_59 : pm_okF cX9_init RX9 2 true 59 (s_newa 0 (.inl (fun _ => 0)) 61) := k_newa_int (by decide +kernel : decode cX9_init 59 = .ok (.newarray .int, 2))
theorem oX9_init_61 : pm_okF cX9_init RX9 2 true 61 (s_putf 9 17 (.array .int) 64) := k_putF (C := RX9) (T := TX9) (N := 45) rfl inX9 tyX9_ok nmX9 (by decide) rfl rfl rfl w_5_183 (dk_putfield (by decide +kernel : bk3 cX9_init 61 181 34 = true))
theorem oX9_init_64 : pm_okF cX9_init RX9 2 true 64 (s_al 0 65) := k_aload_n (dk_aload_n_0 (by decide +kernel : bk1 cX9_init 64 42 = true)) rfl
theorem oX9_init_65 : pm_okF cX9_init RX9 2 true 65 (s_const (.int 80) 67) := k_bipush (dk_bipush (by decide +kernel : bkB cX9_init 65 16 80 = true)) (by decide)
theorem oX9_init_67 : pm_okF cX9_init RX9 2 true 67 (s_newa 0 (.inl (fun _ => 0)) 69) := k_newa_int (by decide +kernel : decode cX9_init 67 = .ok (.newarray .int, 2))
theorem oX9_init_69 : pm_okF cX9_init RX9 2 true 69 (s_putf 9 18 (.array .int) 72) := k_putF (C := RX9) (T := TX9) (N := 45) rfl inX9 tyX9_ok nmX9 (by decide) rfl rfl rfl w_5_184 (dk_putfield (by decide +kernel : bk3 cX9_init 69 181 37 = true))
theorem oX9_init_72 : pm_okF cX9_init RX9 2 true 72 (s_al 0 73) := k_aload_n (dk_aload_n_0 (by decide +kernel : bk1 cX9_init 72 42 = true)) rfl
theorem oX9_init_73 : pm_okF cX9_init RX9 2 true 73 (s_const (.int 80) 75) := k_bipush (dk_bipush (by decide +kernel : bkB cX9_init 73 16 80 = true)) (by decide)
theorem oX9_init_75 : pm_okF cX9_init RX9 2 true 75 (s_newa 0 (.inl (fun _ => 0)) 77) := k_newa_int (by decide +kernel : decode cX9_init 75 = .ok (.newarray .int, 2))
theorem oX9_init_77 : pm_okF cX9_init RX9 2 true 77 (s_putf 9 19 (.array .int) 80) := k_putF (C := RX9) (T := TX9) (N := 45) rfl inX9 tyX9_ok nmX9 (by decide) rfl rfl rfl w_5_185 (dk_putfield (by decide +kernel : bk3 cX9_init 77 181 40 = true))
theorem oX9_init_80 : pm_okF cX9_init RX9 2 true 80 (s_al 0 81) := k_aload_n (dk_aload_n_0 (by decide +kernel : bk1 cX9_init 80 42 = true)) rfl
theorem oX9_init_81 : pm_okF cX9_init RX9 2 true 81 (s_const (.int 300) 84) := k_sipush (dk_sipush (by decide +kernel : bkS cX9_init 81 17 300 = true)) (by decide)
theorem oX9_init_84 : pm_okF cX9_init RX9 2 true 84 (s_newa 0 (.inl (fun _ => 0)) 86) := k_newa_int (by decide +kernel : decode cX9_init 84 = .ok (.newarray .int, 2))
theorem oX9_init_86 : pm_okF cX9_init RX9 2 true 86 (s_putf 9 20 (.array .int) 89) := k_putF (C := RX9) (T := TX9) (N := 45) rfl inX9 tyX9_ok nmX9 (by decide) rfl rfl rfl w_5_186 (dk_putfield (by decide +kernel : bk3 cX9_init 86 181 43 = true))
theorem oX9_init_89 : pm_okF cX9_init RX9 2 true 89 (s_al 0 90) := k_aload_n (dk_aload_n_0 (by decide +kernel : bk1 cX9_init 89 42 = true)) rfl
theorem oX9_init_90 : pm_okF cX9_init RX9 2 true 90 (s_const (.int 3) 91) := k_iconst (dk_iconst_3 (by decide +kernel : bk1 cX9_init 90 6 = true)) (by decide)
theorem oX9_init_91 : pm_okF cX9_init RX9 2 true 91 (s_newa 2 (.inl (fun _ => 0)) 93) := k_newa_boolean (by decide +kernel : decode cX9_init 91 = .ok (.newarray .boolean, 2))
theorem oX9_init_93 : pm_okF cX9_init RX9 2 true 93 (s_putf 9 21 (.array .boolean) 96) := k_putF (C := RX9) (T := TX9) (N := 45) rfl inX9 tyX9_ok nmX9 (by decide) rfl rfl rfl w_5_187 (dk_putfield (by decide +kernel : bk3 cX9_init 93 181 46 = true))
theorem oX9_init_96 : pm_okF cX9_init RX9 2 true 96 (s_al 0 97) := k_aload_n (dk_aload_n_0 (by decide +kernel : bk1 cX9_init 96 42 = true)) rfl
theorem oX9_init_97 : pm_okF cX9_init RX9 2 true 97 (s_const (.int 8) 99) := k_bipush (dk_bipush (by decide +kernel : bkB cX9_init 97 16 8 = true)) (by decide)
theorem oX9_init_99 : pm_okF cX9_init RX9 2 true 99 (s_newa 0 (.inl (fun _ => 0)) 101) := k_newa_int (by decide +kernel : decode cX9_init 99 = .ok (.newarray .int, 2))
theorem oX9_init_101 : pm_okF cX9_init RX9 2 true 101 (s_putf 9 24 (.array .int) 104) := k_putF (C := RX9) (T := TX9) (N := 45) rfl inX9 tyX9_ok nmX9 (by decide) rfl rfl rfl w_5_190 (dk_putfield (by decide +kernel : bk3 cX9_init 101 181 50 = true))
theorem oX9_init_104 : pm_okF cX9_init RX9 2 true 104 (s_al 0 105) := k_aload_n (dk_aload_n_0 (by decide +kernel : bk1 cX9_init 104 42 = true)) rfl
theorem oX9_init_105 : pm_okF cX9_init RX9 2 true 105 (s_const (.int 10) 107) := k_bipush (dk_bipush (by decide +kernel : bkB cX9_init 105 16 10 = true)) (by decide)
theorem oX9_init_107 : pm_okF cX9_init RX9 2 true 107 (s_newa 0 (.inl (fun _ => 0)) 109) := k_newa_int (by decide +kernel : decode cX9_init 107 = .ok (.newarray .int, 2))
theorem oX9_init_109 : pm_okF cX9_init RX9 2 true 109 (s_putf 9 25 (.array .int) 112) := k_putF (C := RX9) (T := TX9) (N := 45) rfl inX9 tyX9_ok nmX9 (by decide) rfl rfl rfl w_5_191 (dk_putfield (by decide +kernel : bk3 cX9_init 109 181 53 = true))
theorem oX9_init_112 : pm_okF cX9_init RX9 2 true 112 (s_al 0 113) := k_aload_n (dk_aload_n_0 (by decide +kernel : bk1 cX9_init 112 42 = true)) rfl
theorem oX9_init_113 : pm_okF cX9_init RX9 2 true 113 (s_const (.int 8) 115) := k_bipush (dk_bipush (by decide +kernel : bkB cX9_init 113 16 8 = true)) (by decide)
theorem oX9_init_115 : pm_okF cX9_init RX9 2 true 115 (s_newa 0 (.inl (fun _ => 0)) 117) := k_newa_int (by decide +kernel : decode cX9_init 115 = .ok (.newarray .int, 2))
theorem oX9_init_117 : pm_okF cX9_init RX9 2 true 117 (s_putf 9 26 (.array .int) 120) := k_putF (C := RX9) (T := TX9) (N := 45) rfl inX9 tyX9_ok nmX9 (by decide) rfl rfl rfl w_5_192 (dk_putfield (by decide +kernel : bk3 cX9_init 117 181 56 = true))
theorem oX9_init_120 : pm_okF cX9_init RX9 2 true 120 (s_al 0 121) := k_aload_n (dk_aload_n_0 (by decide +kernel : bk1 cX9_init 120 42 = true)) rfl
theorem oX9_init_121 : pm_okF cX9_init RX9 2 true 121 (s_const (.int 9) 123) := k_bipush (dk_bipush (by decide +kernel : bkB cX9_init 121 16 9 = true)) (by decide)
theorem oX9_init_123 : pm_okF cX9_init RX9 2 true 123 (s_newa 0 (.inl (fun _ => 0)) 125) := k_newa_int (by decide +kernel : decode cX9_init 123 = .ok (.newarray .int, 2))
theorem oX9_init_125 : pm_okF cX9_init RX9 2 true 125 (s_putf 9 28 (.array .int) 128) := k_putF (C := RX9) (T := TX9) (N := 45) rfl inX9 tyX9_ok nmX9 (by decide) rfl rfl rfl w_5_194 (dk_putfield (by decide +kernel : bk3 cX9_init 125 181 59 = true))
theorem oX9_init_128 : pm_okF cX9_init RX9 2 true 128 (s_al 0 129) := k_aload_n (dk_aload_n_0 (by decide +kernel : bk1 cX9_init 128 42 = true)) rfl
theorem oX9_init_129 : pm_okF cX9_init RX9 2 true 129 (s_const (.int 9) 131) := k_bipush (dk_bipush (by decide +kernel : bkB cX9_init 129 16 9 = true)) (by decide)
theorem oX9_init_131 : pm_okF cX9_init RX9 2 true 131 (s_newa 0 (.inl (fun _ => 0)) 133) := k_newa_int (by decide +kernel : decode cX9_init 131 = .ok (.newarray .int, 2))
theorem oX9_init_133 : pm_okF cX9_init RX9 2 true 133 (s_putf 9 29 (.array .int) 136) := k_putF (C := RX9) (T := TX9) (N := 45) rfl inX9 tyX9_ok nmX9 (by decide) rfl rfl rfl w_5_195 (dk_putfield (by decide +kernel : bk3 cX9_init 133 181 62 = true))
theorem oX9_init_136 : pm_okF cX9_init RX9 2 true 136 (s_al 0 137) := k_aload_n (dk_aload_n_0 (by decide +kernel : bk1 cX9_init 136 42 = true)) rfl
theorem oX9_init_137 : pm_okF cX9_init RX9 2 true 137 (s_const (.int 9) 139) := k_bipush (dk_bipush (by decide +kernel : bkB cX9_init 137 16 9 = true)) (by decide)
theorem oX9_init_139 : pm_okF cX9_init RX9 2 true 139 (s_newa 0 (.inl (fun _ => 0)) 141) := k_newa_int (by decide +kernel : decode cX9_init 139 = .ok (.newarray .int, 2))
theorem oX9_init_141 : pm_okF cX9_init RX9 2 true 141 (s_putf 9 30 (.array .int) 144) := k_putF (C := RX9) (T := TX9) (N := 45) rfl inX9 tyX9_ok nmX9 (by decide) rfl rfl rfl w_5_196 (dk_putfield (by decide +kernel : bk3 cX9_init 141 181 65 = true))
theorem oX9_init_144 : pm_okF cX9_init RX9 2 true 144 (s_al 0 145) := k_aload_n (dk_aload_n_0 (by decide +kernel : bk1 cX9_init 144 42 = true)) rfl
theorem oX9_init_145 : pm_okF cX9_init RX9 2 true 145 (s_const (.int 8) 147) := k_bipush (dk_bipush (by decide +kernel : bkB cX9_init 145 16 8 = true)) (by decide)
theorem oX9_init_147 : pm_okF cX9_init RX9 2 true 147 (s_newa 0 (.inl (fun _ => 0)) 149) := k_newa_int (by decide +kernel : decode cX9_init 147 = .ok (.newarray .int, 2))
theorem oX9_init_149 : pm_okF cX9_init RX9 2 true 149 (s_putf 9 31 (.array .int) 152) := k_putF (C := RX9) (T := TX9) (N := 45) rfl inX9 tyX9_ok nmX9 (by decide) rfl rfl rfl w_5_197 (dk_putfield (by decide +kernel : bk3 cX9_init 149 181 68 = true))
theorem oX9_init_152 : pm_okF cX9_init RX9 2 true 152 (s_al 0 153) := k_aload_n (dk_aload_n_0 (by decide +kernel : bk1 cX9_init 152 42 = true)) rfl
theorem oX9_init_153 : pm_okF cX9_init RX9 2 true 153 (s_const (.int 18) 155) := k_bipush (dk_bipush (by decide +kernel : bkB cX9_init 153 16 18 = true)) (by decide)
theorem oX9_init_155 : pm_okF cX9_init RX9 2 true 155 (s_newa 0 (.inl (fun _ => 0)) 157) := k_newa_int (by decide +kernel : decode cX9_init 155 = .ok (.newarray .int, 2))
theorem oX9_init_157 : pm_okF cX9_init RX9 2 true 157 (s_putf 9 32 (.array .int) 160) := k_putF (C := RX9) (T := TX9) (N := 45) rfl inX9 tyX9_ok nmX9 (by decide) rfl rfl rfl w_5_198 (dk_putfield (by decide +kernel : bk3 cX9_init 157 181 71 = true))
theorem oX9_init_160 : pm_okF cX9_init RX9 2 true 160 (s_al 0 161) := k_aload_n (dk_aload_n_0 (by decide +kernel : bk1 cX9_init 160 42 = true)) rfl
theorem oX9_init_161 : pm_okF cX9_init RX9 2 true 161 (s_const (.int 8) 163) := k_bipush (dk_bipush (by decide +kernel : bkB cX9_init 161 16 8 = true)) (by decide)
theorem oX9_init_163 : pm_okF cX9_init RX9 2 true 163 (s_newa 0 (.inl (fun _ => 0)) 165) := k_newa_int (by decide +kernel : decode cX9_init 163 = .ok (.newarray .int, 2))
theorem oX9_init_165 : pm_okF cX9_init RX9 2 true 165 (s_putf 9 33 (.array .int) 168) := k_putF (C := RX9) (T := TX9) (N := 45) rfl inX9 tyX9_ok nmX9 (by decide) rfl rfl rfl w_5_199 (dk_putfield (by decide +kernel : bk3 cX9_init 165 181 74 = true))
theorem oX9_init_168 : pm_okF cX9_init RX9 2 true 168 (s_al 0 169) := k_aload_n (dk_aload_n_0 (by decide +kernel : bk1 cX9_init 168 42 = true)) rfl
theorem oX9_init_169 : pm_okF cX9_init RX9 2 true 169 (s_const (.int 9) 171) := k_bipush (dk_bipush (by decide +kernel : bkB cX9_init 169 16 9 = true)) (by decide)
theorem oX9_init_171 : pm_okF cX9_init RX9 2 true 171 (s_newa 0 (.inl (fun _ => 0)) 173) := k_newa_int (by decide +kernel : decode cX9_init 171 = .ok (.newarray .int, 2))
theorem oX9_init_173 : pm_okF cX9_init RX9 2 true 173 (s_putf 9 34 (.array .int) 176) := k_putF (C := RX9) (T := TX9) (N := 45) rfl inX9 tyX9_ok nmX9 (by decide) rfl rfl rfl w_5_200 (dk_putfield (by decide +kernel : bk3 cX9_init 173 181 77 = true))
theorem oX9_init_176 : pm_okF cX9_init RX9 2 true 176 (s_al 0 177) := k_aload_n (dk_aload_n_0 (by decide +kernel : bk1 cX9_init 176 42 = true)) rfl
theorem oX9_init_177 : pm_okF cX9_init RX9 2 true 177 (s_const (.int 5) 178) := k_iconst (dk_iconst_5 (by decide +kernel : bk1 cX9_init 177 8 = true)) (by decide)
theorem oX9_init_178 : pm_okF cX9_init RX9 2 true 178 (s_newa 0 (.inl (fun _ => 0)) 180) := k_newa_int (by decide +kernel : decode cX9_init 178 = .ok (.newarray .int, 2))
theorem oX9_init_180 : pm_okF cX9_init RX9 2 true 180 (s_putf 9 37 (.array .int) 183) := k_putF (C := RX9) (T := TX9) (N := 45) rfl inX9 tyX9_ok nmX9 (by decide) rfl rfl rfl w_5_203 (dk_putfield (by decide +kernel : bk3 cX9_init 180 181 80 = true))
theorem oX9_init_183 : pm_okF cX9_init RX9 2 true 183 (s_al 0 184) := k_aload_n (dk_aload_n_0 (by decide +kernel : bk1 cX9_init 183 42 = true)) rfl
theorem oX9_init_184 : pm_okF cX9_init RX9 2 true 184 (s_const (.int 6) 186) := k_bipush (dk_bipush (by decide +kernel : bkB cX9_init 184 16 6 = true)) (by decide)
theorem oX9_init_186 : pm_okF cX9_init RX9 2 true 186 (s_newa 0 (.inl (fun _ => 0)) 188) := k_newa_int (by decide +kernel : decode cX9_init 186 = .ok (.newarray .int, 2))
theorem oX9_init_188 : pm_okF cX9_init RX9 2 true 188 (s_putf 9 38 (.array .int) 191) := k_putF (C := RX9) (T := TX9) (N := 45) rfl inX9 tyX9_ok nmX9 (by decide) rfl rfl rfl w_5_204 (dk_putfield (by decide +kernel : bk3 cX9_init 188 181 83 = true))
theorem oX9_init_191 : pm_okF cX9_init RX9 2 true 191 (s_al 0 192) := k_aload_n (dk_aload_n_0 (by decide +kernel : bk1 cX9_init 191 42 = true)) rfl
theorem oX9_init_192 : pm_okF cX9_init RX9 2 true 192 (s_const (.int 10) 194) := k_bipush (dk_bipush (by decide +kernel : bkB cX9_init 192 16 10 = true)) (by decide)
theorem oX9_init_194 : pm_okF cX9_init RX9 2 true 194 (s_newa 0 (.inl (fun _ => 0)) 196) := k_newa_int (by decide +kernel : decode cX9_init 194 = .ok (.newarray .int, 2))
theorem oX9_init_196 : pm_okF cX9_init RX9 2 true 196 (s_putf 9 40 (.array .int) 199) := k_putF (C := RX9) (T := TX9) (N := 45) rfl inX9 tyX9_ok nmX9 (by decide) rfl rfl rfl w_5_206 (dk_putfield (by decide +kernel : bk3 cX9_init 196 181 86 = true))
theorem oX9_init_199 : pm_okF cX9_init RX9 2 true 199 (s_al 0 200) := k_aload_n (dk_aload_n_0 (by decide +kernel : bk1 cX9_init 199 42 = true)) rfl
theorem oX9_init_200 : pm_okF cX9_init RX9 2 true 200 (s_const (.int 72) 202) := k_bipush (dk_bipush (by decide +kernel : bkB cX9_init 200 16 72 = true)) (by decide)
theorem oX9_init_202 : pm_okF cX9_init RX9 2 true 202 (s_newa 0 (.inl (fun _ => 0)) 204) := k_newa_int (by decide +kernel : decode cX9_init 202 = .ok (.newarray .int, 2))
theorem oX9_init_204 : pm_okF cX9_init RX9 2 true 204 (s_putf 9 44 (.array .int) 207) := k_putF (C := RX9) (T := TX9) (N := 45) rfl inX9 tyX9_ok nmX9 (by decide) rfl rfl rfl w_5_210 (dk_putfield (by decide +kernel : bk3 cX9_init 204 181 89 = true))
theorem oX9_init_207 : pm_okF cX9_init RX9 2 true 207 (s_const (.int 0) 208) := k_iconst (dk_iconst_0 (by decide +kernel : bk1 cX9_init 207 3 = true)) (by decide)
theorem oX9_init_208 : pm_okF cX9_init RX9 2 true 208 (s_is 1 209) := k_istore_n (dk_istore_n_1 (by decide +kernel : bk1 cX9_init 208 60 = true)) rfl (by decide)
theorem oX9_init_209 : pm_okF cX9_init RX9 2 true 209 (s_il 1 210) := k_iload_n (dk_iload_n_1 (by decide +kernel : bk1 cX9_init 209 27 = true)) rfl
theorem oX9_init_210 : pm_okF cX9_init RX9 2 true 210 (s_const (.int 4) 211) := k_iconst (dk_iconst_4 (by decide +kernel : bk1 cX9_init 210 7 = true)) (by decide)
theorem oX9_init_211 : pm_okF cX9_init RX9 2 true 211 (s_icmp (fun x y => decide (y ≤ x)) 227 214) := k_icmp_ge (dk_if_icmp_ge (by decide +kernel : bkS cX9_init 211 162 16 = true)) (by decide)
theorem oX9_init_214 : pm_okF cX9_init RX9 2 true 214 (s_al 0 215) := k_aload_n (dk_aload_n_0 (by decide +kernel : bk1 cX9_init 214 42 = true)) rfl
theorem oX9_init_215 : pm_okF cX9_init RX9 2 true 215 (s_getf 9 1 218) := k_getf (C := RX9) (T := TX9) (N := 45) rfl inX9 (by decide) w_5_167 (dk_getfield (by decide +kernel : bk3 cX9_init 215 180 7 = true))
theorem oX9_init_218 : pm_okF cX9_init RX9 2 true 218 (s_il 1 219) := k_iload_n (dk_iload_n_1 (by decide +kernel : bk1 cX9_init 218 27 = true)) rfl
theorem oX9_init_219 : pm_okF cX9_init RX9 2 true 219 (s_const (.int (-1)) 220) := k_iconst (dk_iconst_m (by decide +kernel : bk1 cX9_init 219 2 = true)) (by decide)
theorem oX9_init_220 : pm_okF cX9_init RX9 2 true 220 (s_iast 221) := k_iast (dk_iastore (by decide +kernel : bk1 cX9_init 220 79 = true))
theorem oX9_init_221 : pm_okF cX9_init RX9 2 true 221 (s_inc 1 1 224) := k_iinc (dk_iinc (by decide +kernel : bkI cX9_init 221 132 1 1 = true)) (by decide) (by decide)
theorem oX9_init_224 : pm_okF cX9_init RX9 2 true 224 (s_goto 209) := k_goto (dk_goto (by decide +kernel : bkS cX9_init 224 167 (-15) = true)) (by decide)
theorem oX9_init_227 : pm_okR cX9_init none 227 0 := ⟨rfl, (dk_return (by decide +kernel : bk1 cX9_init 227 177 = true))⟩
set_option maxRecDepth 20000 in
theorem oX9_init : pm_okM pm_P iX9_init := ⟨rfl, fun _ => rfl, List.forall_mem_cons.mpr ⟨oX9_init_0, List.forall_mem_cons.mpr ⟨oX9_init_1, List.forall_mem_cons.mpr ⟨oX9_init_4, List.forall_mem_cons.mpr ⟨oX9_init_5, List.forall_mem_cons.mpr ⟨oX9_init_6, List.forall_mem_cons.mpr ⟨oX9_init_8, List.forall_mem_cons.mpr ⟨oX9_init_11, List.forall_mem_cons.mpr ⟨oX9_init_12, List.forall_mem_cons.mpr ⟨oX9_init_13, List.forall_mem_cons.mpr ⟨oX9_init_15, List.forall_mem_cons.mpr ⟨oX9_init_18, List.forall_mem_cons.mpr ⟨oX9_init_19, List.forall_mem_cons.mpr ⟨oX9_init_22, List.forall_mem_cons.mpr ⟨oX9_init_24, List.forall_mem_cons.mpr ⟨oX9_init_27, List.forall_mem_cons.mpr ⟨oX9_init_28, List.forall_mem_cons.mpr ⟨oX9_init_30, List.forall_mem_cons.mpr ⟨oX9_init_32, List.forall_mem_cons.mpr ⟨oX9_init_35, List.forall_mem_cons.mpr ⟨oX9_init_36, List.forall_mem_cons.mpr ⟨oX9_init_39, List.forall_mem_cons.mpr ⟨oX9_init_41, List.forall_mem_cons.mpr ⟨oX9_init_44, List.forall_mem_cons.mpr ⟨oX9_init_45, List.forall_mem_cons.mpr ⟨oX9_init_46, List.forall_mem_cons.mpr ⟨oX9_init_49, List.forall_mem_cons.mpr ⟨oX9_init_50, List.forall_mem_cons.mpr ⟨oX9_init_51, List.forall_mem_cons.mpr ⟨oX9_init_53, List.forall_mem_cons.mpr ⟨oX9_init_56, List.forall_mem_cons.mpr ⟨oX9_init_57, List.forall_mem_cons.mpr ⟨oX9_init_59, List.forall_mem_cons.mpr ⟨oX9_init_61, List.forall_mem_cons.mpr ⟨oX9_init_64, List.forall_mem_cons.mpr ⟨oX9_init_65, List.forall_mem_cons.mpr ⟨oX9_init_67, List.forall_mem_cons.mpr ⟨oX9_init_69, List.forall_mem_cons.mpr ⟨oX9_init_72, List.forall_mem_cons.mpr ⟨oX9_init_73, List.forall_mem_cons.mpr ⟨oX9_init_75, List.forall_mem_cons.mpr ⟨oX9_init_77, List.forall_mem_cons.mpr ⟨oX9_init_80, List.forall_mem_cons.mpr ⟨oX9_init_81, List.forall_mem_cons.mpr ⟨oX9_init_84, List.forall_mem_cons.mpr ⟨oX9_init_86, List.forall_mem_cons.mpr ⟨oX9_init_89, List.forall_mem_cons.mpr ⟨oX9_init_90, List.forall_mem_cons.mpr ⟨oX9_init_91, List.forall_mem_cons.mpr ⟨oX9_init_93, List.forall_mem_cons.mpr ⟨oX9_init_96, List.forall_mem_cons.mpr ⟨oX9_init_97, List.forall_mem_cons.mpr ⟨oX9_init_99, List.forall_mem_cons.mpr ⟨oX9_init_101, List.forall_mem_cons.mpr ⟨oX9_init_104, List.forall_mem_cons.mpr ⟨oX9_init_105, List.forall_mem_cons.mpr ⟨oX9_init_107, List.forall_mem_cons.mpr ⟨oX9_init_109, List.forall_mem_cons.mpr ⟨oX9_init_112, List.forall_mem_cons.mpr ⟨oX9_init_113, List.forall_mem_cons.mpr ⟨oX9_init_115, List.forall_mem_cons.mpr ⟨oX9_init_117, List.forall_mem_cons.mpr ⟨oX9_init_120, List.forall_mem_cons.mpr ⟨oX9_init_121, List.forall_mem_cons.mpr ⟨oX9_init_123, List.forall_mem_cons.mpr ⟨oX9_init_125, List.forall_mem_cons.mpr ⟨oX9_init_128, List.forall_mem_cons.mpr ⟨oX9_init_129, List.forall_mem_cons.mpr ⟨oX9_init_131, List.forall_mem_cons.mpr ⟨oX9_init_133, List.forall_mem_cons.mpr ⟨oX9_init_136, List.forall_mem_cons.mpr ⟨oX9_init_137, List.forall_mem_cons.mpr ⟨oX9_init_139, List.forall_mem_cons.mpr ⟨oX9_init_141, List.forall_mem_cons.mpr ⟨oX9_init_144, List.forall_mem_cons.mpr ⟨oX9_init_145, List.forall_mem_cons.mpr ⟨oX9_init_147, List.forall_mem_cons.mpr ⟨oX9_init_149, List.forall_mem_cons.mpr ⟨oX9_init_152, List.forall_mem_cons.mpr ⟨oX9_init_153, List.forall_mem_cons.mpr ⟨oX9_init_155, List.forall_mem_cons.mpr ⟨oX9_init_157, List.forall_mem_cons.mpr ⟨oX9_init_160, List.forall_mem_cons.mpr ⟨oX9_init_161, List.forall_mem_cons.mpr ⟨oX9_init_163, List.forall_mem_cons.mpr ⟨oX9_init_165, List.forall_mem_cons.mpr ⟨oX9_init_168, List.forall_mem_cons.mpr ⟨oX9_init_169, List.forall_mem_cons.mpr ⟨oX9_init_171, List.forall_mem_cons.mpr ⟨oX9_init_173, List.forall_mem_cons.mpr ⟨oX9_init_176, List.forall_mem_cons.mpr ⟨oX9_init_177, List.forall_mem_cons.mpr ⟨oX9_init_178, List.forall_mem_cons.mpr ⟨oX9_init_180, List.forall_mem_cons.mpr ⟨oX9_init_183, List.forall_mem_cons.mpr ⟨oX9_init_184, List.forall_mem_cons.mpr ⟨oX9_init_186, List.forall_mem_cons.mpr ⟨oX9_init_188, List.forall_mem_cons.mpr ⟨oX9_init_191, List.forall_mem_cons.mpr ⟨oX9_init_192, List.forall_mem_cons.mpr ⟨oX9_init_194, List.forall_mem_cons.mpr ⟨oX9_init_196, List.forall_mem_cons.mpr ⟨oX9_init_199, List.forall_mem_cons.mpr ⟨oX9_init_200, List.forall_mem_cons.mpr ⟨oX9_init_202, List.forall_mem_cons.mpr ⟨oX9_init_204, List.forall_mem_cons.mpr ⟨oX9_init_207, List.forall_mem_cons.mpr ⟨oX9_init_208, List.forall_mem_cons.mpr ⟨oX9_init_209, List.forall_mem_cons.mpr ⟨oX9_init_210, List.forall_mem_cons.mpr ⟨oX9_init_211, List.forall_mem_cons.mpr ⟨oX9_init_214, List.forall_mem_cons.mpr ⟨oX9_init_215, List.forall_mem_cons.mpr ⟨oX9_init_218, List.forall_mem_cons.mpr ⟨oX9_init_219, List.forall_mem_cons.mpr ⟨oX9_init_220, List.forall_mem_cons.mpr ⟨oX9_init_221, List.forall_mem_cons.mpr ⟨oX9_init_224, List.forall_mem_cons.mpr ⟨oX9_init_227, fun _ h => absurd h List.not_mem_nil⟩⟩⟩⟩⟩⟩⟩⟩⟩⟩⟩⟩⟩⟩⟩⟩⟩⟩⟩⟩⟩⟩⟩⟩⟩⟩⟩⟩⟩⟩⟩⟩⟩⟩⟩⟩⟩⟩⟩⟩⟩⟩⟩⟩⟩⟩⟩⟩⟩⟩⟩⟩⟩⟩⟩⟩⟩⟩⟩⟩⟩⟩⟩⟩⟩⟩⟩⟩⟩⟩⟩⟩⟩⟩⟩⟩⟩⟩⟩⟩⟩⟩⟩⟩⟩⟩⟩⟩⟩⟩⟩⟩⟩⟩⟩⟩⟩⟩⟩⟩⟩⟩⟩⟩⟩⟩⟩⟩⟩⟩⟩⟩⟩⟩⟩⟩⟩⟩⟩
set_option maxRecDepth 20000 in
theorem oX9_inversions : pm_okM pm_P iX9_inversions := rows_M (kd := 1) rfl (fun h => by cases h) (abX9_inversions w0) poRX9_g pcRX9_g rfl (by decide +kernel)
theorem oX9_is_0 : pm_okF cX9_is RX9 3 false 0 (s_al 0 1) := k_aload_n (dk_aload_n_0 (by decide +kernel : bk1 cX9_is 0 42 = true)) rfl
theorem oX9_is_1 : pm_okF cX9_is RX9 3 false 1 (s_getf 9 12 4) := k_getf (C := RX9) (T := TX9) (N := 45) rfl inX9 (by decide) w_5_178 (dk_getfield (by decide +kernel : bk3 cX9_is 1 180 144 = true))
theorem oX9_is_4 : pm_okF cX9_is RX9 3 false 4 (s_if (fun x => decide (¬ x = 0)) 28 7) := k_if_ne (dk_ifCond_ne (by decide +kernel : bkS cX9_is 4 154 24 = true)) (by decide)
theorem oX9_is_7 : pm_okF cX9_is RX9 3 false 7 (s_al 0 8) := k_aload_n (dk_aload_n_0 (by decide +kernel : bk1 cX9_is 7 42 = true)) rfl
theorem oX9_is_8 : pm_okF cX9_is RX9 3 false 8 (s_getf 9 8 11) := k_getf (C := RX9) (T := TX9) (N := 45) rfl inX9 (by decide) w_5_174 (dk_getfield (by decide +kernel : bk3 cX9_is 8 180 133 = true))
theorem oX9_is_11 : pm_okF cX9_is RX9 3 false 11 (s_const (.int 1) 12) := k_iconst (dk_iconst_1 (by decide +kernel : bk1 cX9_is 11 4 = true)) (by decide)
theorem oX9_is_12 : pm_okF cX9_is RX9 3 false 12 (s_icmp (fun x y => decide (¬ x = y)) 28 15) := k_icmp_ne (dk_if_icmp_ne (by decide +kernel : bkS cX9_is 12 160 16 = true)) (by decide)
theorem oX9_is_15 : pm_okF cX9_is RX9 3 false 15 (s_al 0 16) := k_aload_n (dk_aload_n_0 (by decide +kernel : bk1 cX9_is 15 42 = true)) rfl
theorem oX9_is_16 : pm_okF cX9_is RX9 3 false 16 (s_getf 9 11 19) := k_getf (C := RX9) (T := TX9) (N := 45) rfl inX9 (by decide) w_5_177 (dk_getfield (by decide +kernel : bk3 cX9_is 16 180 129 = true))
theorem oX9_is_19 : pm_okF cX9_is RX9 3 false 19 (s_ll 1 20) := k_lload_n (dk_lload_n_1 (by decide +kernel : bk1 cX9_is 19 31 = true)) rfl
theorem oX9_is_20 : pm_okF cX9_is RX9 3 false 20 (s_lcmp 21) := k_lcmp (dk_lcmp (by decide +kernel : bk1 cX9_is 20 148 = true))
theorem oX9_is_21 : pm_okF cX9_is RX9 3 false 21 (s_if (fun x => decide (¬ x = 0)) 28 24) := k_if_ne (dk_ifCond_ne (by decide +kernel : bkS cX9_is 21 154 7 = true)) (by decide)
theorem oX9_is_24 : pm_okF cX9_is RX9 3 false 24 (s_const (.int 1) 25) := k_iconst (dk_iconst_1 (by decide +kernel : bk1 cX9_is 24 4 = true)) (by decide)
theorem oX9_is_25 : pm_okF cX9_is RX9 3 false 25 (s_goto 29) := k_goto (dk_goto (by decide +kernel : bkS cX9_is 25 167 4 = true)) (by decide)
theorem oX9_is_28 : pm_okF cX9_is RX9 3 false 28 (s_const (.int 0) 29) := k_iconst (dk_iconst_0 (by decide +kernel : bk1 cX9_is 28 3 = true)) (by decide)
theorem oX9_is_29 : pm_okR cX9_is (some .boolean) 29 2 := ⟨rfl, (dk_ireturn (by decide +kernel : bk1 cX9_is 29 172 = true))⟩
set_option maxRecDepth 20000 in
theorem oX9_is : pm_okM pm_P iX9_is := ⟨rfl, (fun h => by cases h), List.forall_mem_cons.mpr ⟨oX9_is_0, List.forall_mem_cons.mpr ⟨oX9_is_1, List.forall_mem_cons.mpr ⟨oX9_is_4, List.forall_mem_cons.mpr ⟨oX9_is_7, List.forall_mem_cons.mpr ⟨oX9_is_8, List.forall_mem_cons.mpr ⟨oX9_is_11, List.forall_mem_cons.mpr ⟨oX9_is_12, List.forall_mem_cons.mpr ⟨oX9_is_15, List.forall_mem_cons.mpr ⟨oX9_is_16, List.forall_mem_cons.mpr ⟨oX9_is_19, List.forall_mem_cons.mpr ⟨oX9_is_20, List.forall_mem_cons.mpr ⟨oX9_is_21, List.forall_mem_cons.mpr ⟨oX9_is_24, List.forall_mem_cons.mpr ⟨oX9_is_25, List.forall_mem_cons.mpr ⟨oX9_is_28, List.forall_mem_cons.mpr ⟨oX9_is_29, fun _ h => absurd h List.not_mem_nil⟩⟩⟩⟩⟩⟩⟩⟩⟩⟩⟩⟩⟩⟩⟩⟩⟩
set_option maxRecDepth 20000 in
theorem oX9_isBit : pm_okM pm_P iX9_isBit := rows_M (kd := 2) rfl (fun h => by cases h) (abX9_isBit w0) poRX9_g pcRX9_g rfl (by decide +kernel)
theorem oX9_isByte_0 : pm_okF cX9_isByte RX9 4 false 0 (s_il 1 1) := k_iload_n (dk_iload_n_1 (by decide +kernel : bk1 cX9_isByte 0 27 = true)) rfl
theorem oX9_isByte_1 : pm_okF cX9_isByte RX9 4 false 1 (s_al 0 2) := k_aload_n (dk_aload_n_0 (by decide +kernel : bk1 cX9_isByte 1 42 = true)) rfl
theorem oX9_isByte_2 : pm_okF cX9_isByte RX9 4 false 2 (s_getf 9 6 5) := k_getf (C := RX9) (T := TX9) (N := 45) rfl inX9 (by decide) w_5_172 (dk_getfield (by decide +kernel : bk3 cX9_isByte 2 180 109 = true))
theorem oX9_isByte_5 : pm_okF cX9_isByte RX9 4 false 5 (s_icmp (fun x y => decide (y ≤ x)) 32 8) := k_icmp_ge (dk_if_icmp_ge (by decide +kernel : bkS cX9_isByte 5 162 27 = true)) (by decide)
theorem oX9_isByte_8 : pm_okF cX9_isByte RX9 4 false 8 (s_al 0 9) := k_aload_n (dk_aload_n_0 (by decide +kernel : bk1 cX9_isByte 8 42 = true)) rfl
theorem oX9_isByte_9 : pm_okF cX9_isByte RX9 4 false 9 (s_getf 9 5 12) := k_getf (C := RX9) (T := TX9) (N := 45) rfl inX9 (by decide) w_5_171 (dk_getfield (by decide +kernel : bk3 cX9_isByte 9 180 23 = true))
theorem oX9_isByte_12 : pm_okF cX9_isByte RX9 4 false 12 (s_il 1 13) := k_iload_n (dk_iload_n_1 (by decide +kernel : bk1 cX9_isByte 12 27 = true)) rfl
theorem oX9_isByte_13 : pm_okF cX9_isByte RX9 4 false 13 (s_bald 14) := k_bald (dk_baload (by decide +kernel : bk1 cX9_isByte 13 51 = true))
theorem oX9_isByte_14 : pm_okF cX9_isByte RX9 4 false 14 (s_il 2 15) := k_iload_n (dk_iload_n_2 (by decide +kernel : bk1 cX9_isByte 14 28 = true)) rfl
theorem oX9_isByte_15 : pm_okF cX9_isByte RX9 4 false 15 (s_icmp (fun x y => decide (x < y)) 32 18) := k_icmp_lt (dk_if_icmp_lt (by decide +kernel : bkS cX9_isByte 15 161 17 = true)) (by decide)
theorem oX9_isByte_18 : pm_okF cX9_isByte RX9 4 false 18 (s_al 0 19) := k_aload_n (dk_aload_n_0 (by decide +kernel : bk1 cX9_isByte 18 42 = true)) rfl
theorem oX9_isByte_19 : pm_okF cX9_isByte RX9 4 false 19 (s_getf 9 5 22) := k_getf (C := RX9) (T := TX9) (N := 45) rfl inX9 (by decide) w_5_171 (dk_getfield (by decide +kernel : bk3 cX9_isByte 19 180 23 = true))
theorem oX9_isByte_22 : pm_okF cX9_isByte RX9 4 false 22 (s_il 1 23) := k_iload_n (dk_iload_n_1 (by decide +kernel : bk1 cX9_isByte 22 27 = true)) rfl
theorem oX9_isByte_23 : pm_okF cX9_isByte RX9 4 false 23 (s_bald 24) := k_bald (dk_baload (by decide +kernel : bk1 cX9_isByte 23 51 = true))
theorem oX9_isByte_24 : pm_okF cX9_isByte RX9 4 false 24 (s_il 3 25) := k_iload_n (dk_iload_n_3 (by decide +kernel : bk1 cX9_isByte 24 29 = true)) rfl
theorem oX9_isByte_25 : pm_okF cX9_isByte RX9 4 false 25 (s_icmp (fun x y => decide (y < x)) 32 28) := k_icmp_gt (dk_if_icmp_gt (by decide +kernel : bkS cX9_isByte 25 163 7 = true)) (by decide)
theorem oX9_isByte_28 : pm_okF cX9_isByte RX9 4 false 28 (s_const (.int 1) 29) := k_iconst (dk_iconst_1 (by decide +kernel : bk1 cX9_isByte 28 4 = true)) (by decide)
theorem oX9_isByte_29 : pm_okF cX9_isByte RX9 4 false 29 (s_goto 33) := k_goto (dk_goto (by decide +kernel : bkS cX9_isByte 29 167 4 = true)) (by decide)
theorem oX9_isByte_32 : pm_okF cX9_isByte RX9 4 false 32 (s_const (.int 0) 33) := k_iconst (dk_iconst_0 (by decide +kernel : bk1 cX9_isByte 32 3 = true)) (by decide)
theorem oX9_isByte_33 : pm_okR cX9_isByte (some .boolean) 33 2 := ⟨rfl, (dk_ireturn (by decide +kernel : bk1 cX9_isByte 33 172 = true))⟩
set_option maxRecDepth 20000 in
theorem oX9_isByte : pm_okM pm_P iX9_isByte := ⟨rfl, (fun h => by cases h), List.forall_mem_cons.mpr ⟨oX9_isByte_0, List.forall_mem_cons.mpr ⟨oX9_isByte_1, List.forall_mem_cons.mpr ⟨oX9_isByte_2, List.forall_mem_cons.mpr ⟨oX9_isByte_5, List.forall_mem_cons.mpr ⟨oX9_isByte_8, List.forall_mem_cons.mpr ⟨oX9_isByte_9, List.forall_mem_cons.mpr ⟨oX9_isByte_12, List.forall_mem_cons.mpr ⟨oX9_isByte_13, List.forall_mem_cons.mpr ⟨oX9_isByte_14, List.forall_mem_cons.mpr ⟨oX9_isByte_15, List.forall_mem_cons.mpr ⟨oX9_isByte_18, List.forall_mem_cons.mpr ⟨oX9_isByte_19, List.forall_mem_cons.mpr ⟨oX9_isByte_22, List.forall_mem_cons.mpr ⟨oX9_isByte_23, List.forall_mem_cons.mpr ⟨oX9_isByte_24, List.forall_mem_cons.mpr ⟨oX9_isByte_25, List.forall_mem_cons.mpr ⟨oX9_isByte_28, List.forall_mem_cons.mpr ⟨oX9_isByte_29, List.forall_mem_cons.mpr ⟨oX9_isByte_32, List.forall_mem_cons.mpr ⟨oX9_isByte_33, fun _ h => absurd h List.not_mem_nil⟩⟩⟩⟩⟩⟩⟩⟩⟩⟩⟩⟩⟩⟩⟩⟩⟩⟩⟩⟩⟩
set_option maxRecDepth 20000 in
theorem oX9_isCar : pm_okM pm_P iX9_isCar := rows_M (kd := 2) rfl (fun h => by cases h) (abX9_isCar w0) poRX9_g pcRX9_g rfl (by decide +kernel)
set_option maxRecDepth 20000 in
theorem oX9_isFree : pm_okM pm_P iX9_isFree := rows_M (kd := 2) rfl (fun h => by cases h) (abX9_isFree w0) poRX9_g pcRX9_g rfl (by decide +kernel)
theorem oX9_isGood_0 : pm_okF cX9_isGood RX9 1 false 0 (s_al 0 1) := k_aload_n (dk_aload_n_0 (by decide +kernel : bk1 cX9_isGood 0 42 = true)) rfl
theorem oX9_isGood_1 : pm_okF cX9_isGood RX9 1 false 1 (s_getf 9 12 4) := k_getf (C := RX9) (T := TX9) (N := 45) rfl inX9 (by decide) w_5_178 (dk_getfield (by decide +kernel : bk3 cX9_isGood 1 180 144 = true))
theorem oX9_isGood_4 : pm_okF cX9_isGood RX9 1 false 4 (s_if (fun x => decide (¬ x = 0)) 11 7) := k_if_ne (dk_ifCond_ne (by decide +kernel : bkS cX9_isGood 4 154 7 = true)) (by decide)
theorem oX9_isGood_7 : pm_okF cX9_isGood RX9 1 false 7 (s_const (.int 1) 8) := k_iconst (dk_iconst_1 (by decide +kernel : bk1 cX9_isGood 7 4 = true)) (by decide)
theorem oX9_isGood_8 : pm_okF cX9_isGood RX9 1 false 8 (s_goto 12) := k_goto (dk_goto (by decide +kernel : bkS cX9_isGood 8 167 4 = true)) (by decide)
theorem oX9_isGood_11 : pm_okF cX9_isGood RX9 1 false 11 (s_const (.int 0) 12) := k_iconst (dk_iconst_0 (by decide +kernel : bk1 cX9_isGood 11 3 = true)) (by decide)
theorem oX9_isGood_12 : pm_okR cX9_isGood (some .boolean) 12 2 := ⟨rfl, (dk_ireturn (by decide +kernel : bk1 cX9_isGood 12 172 = true))⟩
set_option maxRecDepth 20000 in
theorem oX9_isGood : pm_okM pm_P iX9_isGood := ⟨rfl, (fun h => by cases h), List.forall_mem_cons.mpr ⟨oX9_isGood_0, List.forall_mem_cons.mpr ⟨oX9_isGood_1, List.forall_mem_cons.mpr ⟨oX9_isGood_4, List.forall_mem_cons.mpr ⟨oX9_isGood_7, List.forall_mem_cons.mpr ⟨oX9_isGood_8, List.forall_mem_cons.mpr ⟨oX9_isGood_11, List.forall_mem_cons.mpr ⟨oX9_isGood_12, fun _ h => absurd h List.not_mem_nil⟩⟩⟩⟩⟩⟩⟩⟩
set_option maxRecDepth 20000 in
theorem oX9_isHalf : pm_okM pm_P iX9_isHalf := rows_M (kd := 2) rfl (fun h => by cases h) (abX9_isHalf w0) poRX9_g pcRX9_g rfl (by decide +kernel)
set_option maxRecDepth 20000 in
theorem oX9_isJoin : pm_okM pm_P iX9_isJoin := rows_M (kd := 2) rfl (fun h => by cases h) (abX9_isJoin w0) poRX9_g pcRX9_g rfl (by decide +kernel)
set_option maxRecDepth 20000 in
theorem oX9_isLawful : pm_okM pm_P iX9_isLawful := rows_M (kd := 2) rfl (fun h => by cases h) (abX9_isLawful w0) poRX9_g pcRX9_g rfl (by decide +kernel)
set_option maxRecDepth 20000 in
theorem oX9_isNode : pm_okM pm_P iX9_isNode := rows_M (kd := 2) rfl (fun h => by cases h) (abX9_isNode w0) poRX9_g pcRX9_g rfl (by decide +kernel)
set_option maxRecDepth 20000 in
theorem oX9_isNumber : pm_okM pm_P iX9_isNumber := rows_M (kd := 2) rfl (fun h => by cases h) (abX9_isNumber w0) poRX9_g pcRX9_g rfl (by decide +kernel)
theorem oX9_isOver_0 : pm_okF cX9_isOver RX9 1 false 0 (s_al 0 1) := k_aload_n (dk_aload_n_0 (by decide +kernel : bk1 cX9_isOver 0 42 = true)) rfl
theorem oX9_isOver_1 : pm_okF cX9_isOver RX9 1 false 1 (s_const (.int 0) 2) := k_iconst (dk_iconst_0 (by decide +kernel : bk1 cX9_isOver 1 3 = true)) (by decide)
theorem oX9_isOver_2 : pm_okF cX9_isOver RX9 1 false 2 (s_putf 9 6 (.int) 5) := k_putf (C := RX9) (T := TX9) (N := 45) rfl inX9 tyX9_ok nmX9 (by decide) rfl rfl w_5_172 (dk_putfield (by decide +kernel : bk3 cX9_isOver 2 181 109 = true))
theorem oX9_isOver_5 : pm_okF cX9_isOver RX9 1 false 5 (s_al 0 6) := k_aload_n (dk_aload_n_0 (by decide +kernel : bk1 cX9_isOver 5 42 = true)) rfl
theorem oX9_isOver_6 : pm_okF cX9_isOver RX9 1 false 6 (s_al 0 7) := k_aload_n (dk_aload_n_0 (by decide +kernel : bk1 cX9_isOver 6 42 = true)) rfl
theorem oX9_isOver_7 : pm_okF cX9_isOver RX9 1 false 7 (s_getf 9 12 10) := k_getf (C := RX9) (T := TX9) (N := 45) rfl inX9 (by decide) w_5_178 (dk_getfield (by decide +kernel : bk3 cX9_isOver 7 180 144 = true))
theorem oX9_isOver_10 : pm_okF cX9_isOver RX9 1 false 10 (s_putf 9 14 (.int) 13) := k_putf (C := RX9) (T := TX9) (N := 45) rfl inX9 tyX9_ok nmX9 (by decide) rfl rfl w_5_180 (dk_putfield (by decide +kernel : bk3 cX9_isOver 10 181 171 = true))
theorem oX9_isOver_13 : pm_okF cX9_isOver RX9 1 false 13 (s_al 0 14) := k_aload_n (dk_aload_n_0 (by decide +kernel : bk1 cX9_isOver 13 42 = true)) rfl
theorem oX9_isOver_14 : pm_okF cX9_isOver RX9 1 false 14 (s_al 0 15) := k_aload_n (dk_aload_n_0 (by decide +kernel : bk1 cX9_isOver 14 42 = true)) rfl
theorem oX9_isOver_15 : pm_okF cX9_isOver RX9 1 false 15 (s_getf 9 12 18) := k_getf (C := RX9) (T := TX9) (N := 45) rfl inX9 (by decide) w_5_178 (dk_getfield (by decide +kernel : bk3 cX9_isOver 15 180 144 = true))
theorem oX9_isOver_18 : pm_okF cX9_isOver RX9 1 false 18 (s_if (fun x => decide (¬ x = 0)) 25 21) := k_if_ne (dk_ifCond_ne (by decide +kernel : bkS cX9_isOver 18 154 7 = true)) (by decide)
theorem oX9_isOver_21 : pm_okF cX9_isOver RX9 1 false 21 (s_const (.int (-1)) 22) := k_iconst (dk_iconst_m (by decide +kernel : bk1 cX9_isOver 21 2 = true)) (by decide)
theorem oX9_isOver_22 : pm_okF cX9_isOver RX9 1 false 22 (s_goto 29) := k_goto (dk_goto (by decide +kernel : bkS cX9_isOver 22 167 7 = true)) (by decide)
theorem oX9_isOver_25 : pm_okF cX9_isOver RX9 1 false 25 (s_al 0 26) := k_aload_n (dk_aload_n_0 (by decide +kernel : bk1 cX9_isOver 25 42 = true)) rfl
theorem oX9_isOver_26 : pm_okF cX9_isOver RX9 1 false 26 (s_getf 9 13 29) := k_getf (C := RX9) (T := TX9) (N := 45) rfl inX9 (by decide) w_5_179 (dk_getfield (by decide +kernel : bk3 cX9_isOver 26 180 147 = true))
theorem oX9_isOver_29 : pm_okF cX9_isOver RX9 1 false 29 (s_putf 9 15 (.int) 32) := k_putf (C := RX9) (T := TX9) (N := 45) rfl inX9 tyX9_ok nmX9 (by decide) rfl rfl w_5_181 (dk_putfield (by decide +kernel : bk3 cX9_isOver 29 181 27 = true))
theorem oX9_isOver_32 : pm_okR cX9_isOver none 32 0 := ⟨rfl, (dk_return (by decide +kernel : bk1 cX9_isOver 32 177 = true))⟩
set_option maxRecDepth 20000 in
theorem oX9_isOver : pm_okM pm_P iX9_isOver := ⟨rfl, (fun h => by cases h), List.forall_mem_cons.mpr ⟨oX9_isOver_0, List.forall_mem_cons.mpr ⟨oX9_isOver_1, List.forall_mem_cons.mpr ⟨oX9_isOver_2, List.forall_mem_cons.mpr ⟨oX9_isOver_5, List.forall_mem_cons.mpr ⟨oX9_isOver_6, List.forall_mem_cons.mpr ⟨oX9_isOver_7, List.forall_mem_cons.mpr ⟨oX9_isOver_10, List.forall_mem_cons.mpr ⟨oX9_isOver_13, List.forall_mem_cons.mpr ⟨oX9_isOver_14, List.forall_mem_cons.mpr ⟨oX9_isOver_15, List.forall_mem_cons.mpr ⟨oX9_isOver_18, List.forall_mem_cons.mpr ⟨oX9_isOver_21, List.forall_mem_cons.mpr ⟨oX9_isOver_22, List.forall_mem_cons.mpr ⟨oX9_isOver_25, List.forall_mem_cons.mpr ⟨oX9_isOver_26, List.forall_mem_cons.mpr ⟨oX9_isOver_29, List.forall_mem_cons.mpr ⟨oX9_isOver_32, fun _ h => absurd h List.not_mem_nil⟩⟩⟩⟩⟩⟩⟩⟩⟩⟩⟩⟩⟩⟩⟩⟩⟩⟩
set_option maxRecDepth 20000 in
theorem oX9_isPlace : pm_okM pm_P iX9_isPlace := rows_M (kd := 2) rfl (fun h => by cases h) (abX9_isPlace w0) poRX9_g pcRX9_g rfl (by decide +kernel)
set_option maxRecDepth 20000 in
theorem oX9_isSeed : pm_okM pm_P iX9_isSeed := rows_M (kd := 2) rfl (fun h => by cases h) (abX9_isSeed w0) poRX9_g pcRX9_g rfl (by decide +kernel)
set_option maxRecDepth 20000 in
theorem oX9_isSlot : pm_okM pm_P iX9_isSlot := rows_M (kd := 2) rfl (fun h => by cases h) (abX9_isSlot w0) poRX9_g pcRX9_g rfl (by decide +kernel)
set_option maxRecDepth 20000 in
theorem oX9_isSmall : pm_okM pm_P iX9_isSmall := rows_M (kd := 2) rfl (fun h => by cases h) (abX9_isSmall w0) poRX9_g pcRX9_g rfl (by decide +kernel)
set_option maxRecDepth 20000 in
theorem oX9_isSo : pm_okM pm_P iX9_isSo := rows_M (kd := 2) rfl (fun h => by cases h) (abX9_isSo w0) poRX9_g pcRX9_g rfl (by decide +kernel)
set_option maxRecDepth 20000 in
theorem oX9_isStreet : pm_okM pm_P iX9_isStreet := rows_M (kd := 2) rfl (fun h => by cases h) (abX9_isStreet w0) poRX9_g pcRX9_g rfl (by decide +kernel)
theorem oX9_joinLine_0 : pm_okF cX9_joinLine RX9 4 false 0 (s_const (.int 2) 1) := k_iconst (dk_iconst_2 (by decide +kernel : bk1 cX9_joinLine 0 5 = true)) (by decide)
theorem oX9_joinLine_1 : pm_okF cX9_joinLine RX9 4 false 1 (s_const (.int 32) 3) := k_bipush (dk_bipush (by decide +kernel : bkB cX9_joinLine 1 16 32 = true)) (by decide)
theorem oX9_joinLine_3 : pm_okF cX9_joinLine RX9 4 false 3 (s_al 0 4) := k_aload_n (dk_aload_n_0 (by decide +kernel : bk1 cX9_joinLine 3 42 = true)) rfl
theorem oX9_joinLine_4 : pm_okF cX9_joinLine RX9 4 false 4 (s_const (.int 4) 5) := k_iconst (dk_iconst_4 (by decide +kernel : bk1 cX9_joinLine 4 7 = true)) (by decide)
theorem oX9_joinLine_5 : ∃ I : pm_M, pm_at pm_P 257 = some I ∧ I.2.2.2.2.2.1 = 0 ∧ I.2.2.2.2.2.2.1 = 0 ∧ pm_okC cX9_joinLine RX9 4 false 5 I.1 I.2.1 I.2.2.1 I.2.2.2.1 2 (some 9) 0 0 := ⟨iX9_hasRead, aiX9_hasRead, rfl, rfl, k_callV (n := 1) (T := TX9) (N := 45) (dk_invokevirtual (by decide +kernel : bk3 cX9_joinLine 5 182 174 = true)) rfl w_6_169 w_6_166 w_6_168 w_0_73 w_1_10 (by decide +kernel) (by decide) (by decide)⟩
theorem oX9_joinLine_8 : pm_okF cX9_joinLine RX9 4 false 8 (s_const (.int 7) 10) := k_bipush (dk_bipush (by decide +kernel : bkB cX9_joinLine 8 16 7 = true)) (by decide)
theorem oX9_joinLine_10 : ∃ I : pm_M, pm_at pm_P 301 = some I ∧ I.2.2.2.2.2.1 = 0 ∧ I.2.2.2.2.2.2.1 = 0 ∧ pm_okC cX9_joinLine RX9 4 false 10 I.1 I.2.1 I.2.2.1 I.2.2.2.1 2 (none) 0 0 := ⟨iX9_lessOf, aiX9_lessOf, rfl, rfl, k_callS (n := 2) (dk_invokestatic (by decide +kernel : bk3 cX9_joinLine 10 184 178 = true)) w_6_183 w_6_181 w_6_182 w_1_10 (by decide +kernel) (by decide)⟩
theorem oX9_joinLine_13 : pm_okF cX9_joinLine RX9 4 false 13 (s_bin (fun x y => x + y) 14) := k_iadd (dk_iadd (by decide +kernel : bk1 cX9_joinLine 13 96 = true))
theorem oX9_joinLine_14 : pm_okF cX9_joinLine RX9 4 false 14 (s_bin (fun x y => x * y) 15) := k_imul (dk_imul (by decide +kernel : bk1 cX9_joinLine 14 104 = true))
theorem oX9_joinLine_15 : pm_okF cX9_joinLine RX9 4 false 15 (s_is 1 16) := k_istore_n (dk_istore_n_1 (by decide +kernel : bk1 cX9_joinLine 15 60 = true)) rfl (by decide)
theorem oX9_joinLine_16 : pm_okF cX9_joinLine RX9 4 false 16 (s_al 0 17) := k_aload_n (dk_aload_n_0 (by decide +kernel : bk1 cX9_joinLine 16 42 = true)) rfl
theorem oX9_joinLine_17 : pm_okF cX9_joinLine RX9 4 false 17 (s_const (.int 1) 18) := k_iconst (dk_iconst_1 (by decide +kernel : bk1 cX9_joinLine 17 4 = true)) (by decide)
theorem oX9_joinLine_18 : pm_okF cX9_joinLine RX9 4 false 18 (s_al 0 19) := k_aload_n (dk_aload_n_0 (by decide +kernel : bk1 cX9_joinLine 18 42 = true)) rfl
theorem oX9_joinLine_19 : pm_okF cX9_joinLine RX9 4 false 19 (s_const (.int 0) 20) := k_iconst (dk_iconst_0 (by decide +kernel : bk1 cX9_joinLine 19 3 = true)) (by decide)
theorem oX9_joinLine_20 : ∃ I : pm_M, pm_at pm_P 257 = some I ∧ I.2.2.2.2.2.1 = 0 ∧ I.2.2.2.2.2.2.1 = 0 ∧ pm_okC cX9_joinLine RX9 4 false 20 I.1 I.2.1 I.2.2.1 I.2.2.2.1 2 (some 9) 0 0 := ⟨iX9_hasRead, aiX9_hasRead, rfl, rfl, k_callV (n := 1) (T := TX9) (N := 45) (dk_invokevirtual (by decide +kernel : bk3 cX9_joinLine 20 182 174 = true)) rfl w_6_169 w_6_166 w_6_168 w_0_73 w_1_10 (by decide +kernel) (by decide) (by decide)⟩
theorem oX9_joinLine_23 : pm_okF cX9_joinLine RX9 4 false 23 (s_const (.int 1) 24) := k_iconst (dk_iconst_1 (by decide +kernel : bk1 cX9_joinLine 23 4 = true)) (by decide)
theorem oX9_joinLine_24 : pm_okF cX9_joinLine RX9 4 false 24 (s_bin (fun x y => x + y) 25) := k_iadd (dk_iadd (by decide +kernel : bk1 cX9_joinLine 24 96 = true))
theorem oX9_joinLine_25 : ∃ I : pm_M, pm_at pm_P 316 = some I ∧ I.2.2.2.2.2.1 = 0 ∧ I.2.2.2.2.2.2.1 = 0 ∧ pm_okC cX9_joinLine RX9 4 false 25 I.1 I.2.1 I.2.2.1 I.2.2.2.1 3 (some 9) 0 0 := ⟨iX9_number, aiX9_number, rfl, rfl, k_callV (n := 2) (T := TX9) (N := 45) (dk_invokevirtual (by decide +kernel : bk3 cX9_joinLine 25 182 167 = true)) rfl w_6_158 w_6_155 w_6_157 w_0_71 w_1_10 (by decide +kernel) (by decide) (by decide)⟩
theorem oX9_joinLine_28 : pm_okF cX9_joinLine RX9 4 false 28 (s_is 2 29) := k_istore_n (dk_istore_n_2 (by decide +kernel : bk1 cX9_joinLine 28 61 = true)) rfl (by decide)
theorem oX9_joinLine_29 : pm_okF cX9_joinLine RX9 4 false 29 (s_al 0 30) := k_aload_n (dk_aload_n_0 (by decide +kernel : bk1 cX9_joinLine 29 42 = true)) rfl
theorem oX9_joinLine_30 : pm_okF cX9_joinLine RX9 4 false 30 (s_const (.int 4) 31) := k_iconst (dk_iconst_4 (by decide +kernel : bk1 cX9_joinLine 30 7 = true)) (by decide)
theorem oX9_joinLine_31 : pm_okF cX9_joinLine RX9 4 false 31 (s_al 0 32) := k_aload_n (dk_aload_n_0 (by decide +kernel : bk1 cX9_joinLine 31 42 = true)) rfl
theorem oX9_joinLine_32 : pm_okF cX9_joinLine RX9 4 false 32 (s_const (.int 4) 33) := k_iconst (dk_iconst_4 (by decide +kernel : bk1 cX9_joinLine 32 7 = true)) (by decide)
theorem oX9_joinLine_33 : ∃ I : pm_M, pm_at pm_P 257 = some I ∧ I.2.2.2.2.2.1 = 0 ∧ I.2.2.2.2.2.2.1 = 0 ∧ pm_okC cX9_joinLine RX9 4 false 33 I.1 I.2.1 I.2.2.1 I.2.2.2.1 2 (some 9) 0 0 := ⟨iX9_hasRead, aiX9_hasRead, rfl, rfl, k_callV (n := 1) (T := TX9) (N := 45) (dk_invokevirtual (by decide +kernel : bk3 cX9_joinLine 33 182 174 = true)) rfl w_6_169 w_6_166 w_6_168 w_0_73 w_1_10 (by decide +kernel) (by decide) (by decide)⟩
theorem oX9_joinLine_36 : ∃ I : pm_M, pm_at pm_P 294 = some I ∧ I.2.2.2.2.2.1 = 0 ∧ I.2.2.2.2.2.2.1 = 0 ∧ pm_okC cX9_joinLine RX9 4 false 36 I.1 I.2.1 I.2.2.1 I.2.2.2.1 3 (some 9) 0 0 := ⟨iX9_laysBlocks, aiX9_laysBlocks, rfl, rfl, k_callV (n := 2) (T := TX9) (N := 45) (dk_invokevirtual (by decide +kernel : bk3 cX9_joinLine 36 182 181 = true)) rfl w_6_187 w_6_184 w_6_186 w_0_76 w_1_10 (by decide +kernel) (by decide) (by decide)⟩
theorem oX9_joinLine_39 : pm_okF cX9_joinLine RX9 4 false 39 (s_al 0 40) := k_aload_n (dk_aload_n_0 (by decide +kernel : bk1 cX9_joinLine 39 42 = true)) rfl
theorem oX9_joinLine_40 : pm_okF cX9_joinLine RX9 4 false 40 (s_getf 9 12 43) := k_getf (C := RX9) (T := TX9) (N := 45) rfl inX9 (by decide) w_5_178 (dk_getfield (by decide +kernel : bk3 cX9_joinLine 40 180 144 = true))
theorem oX9_joinLine_43 : pm_okF cX9_joinLine RX9 4 false 43 (s_if (fun x => decide (¬ x = 0)) 98 46) := k_if_ne (dk_ifCond_ne (by decide +kernel : bkS cX9_joinLine 43 154 55 = true)) (by decide)
theorem oX9_joinLine_46 : pm_okF cX9_joinLine RX9 4 false 46 (s_al 0 47) := k_aload_n (dk_aload_n_0 (by decide +kernel : bk1 cX9_joinLine 46 42 = true)) rfl
theorem oX9_joinLine_47 : pm_okF cX9_joinLine RX9 4 false 47 (s_getf 9 8 50) := k_getf (C := RX9) (T := TX9) (N := 45) rfl inX9 (by decide) w_5_174 (dk_getfield (by decide +kernel : bk3 cX9_joinLine 47 180 133 = true))
theorem oX9_joinLine_50 : pm_okF cX9_joinLine RX9 4 false 50 (s_const (.int 2) 51) := k_iconst (dk_iconst_2 (by decide +kernel : bk1 cX9_joinLine 50 5 = true)) (by decide)
theorem oX9_joinLine_51 : pm_okF cX9_joinLine RX9 4 false 51 (s_icmp (fun x y => decide (¬ x = y)) 98 54) := k_icmp_ne (dk_if_icmp_ne (by decide +kernel : bkS cX9_joinLine 51 160 47 = true)) (by decide)
theorem oX9_joinLine_54 : pm_okF cX9_joinLine RX9 4 false 54 (s_al 0 55) := k_aload_n (dk_aload_n_0 (by decide +kernel : bk1 cX9_joinLine 54 42 = true)) rfl
theorem oX9_joinLine_55 : pm_okF cX9_joinLine RX9 4 false 55 (s_getf 9 10 58) := k_getf (C := RX9) (T := TX9) (N := 45) rfl inX9 (by decide) w_5_176 (dk_getfield (by decide +kernel : bk3 cX9_joinLine 55 180 126 = true))
theorem oX9_joinLine_58 : pm_okF cX9_joinLine RX9 4 false 58 (s_i2l 59) := k_i2l (dk_i2l (by decide +kernel : bk1 cX9_joinLine 58 133 = true))
theorem oX9_joinLine_59 : pm_okF cX9_joinLine RX9 4 false 59 (s_const (.long 1) 60) := k_lconst (dk_lconst_1 (by decide +kernel : bk1 cX9_joinLine 59 10 = true)) (by decide)
theorem oX9_joinLine_60 : pm_okF cX9_joinLine RX9 4 false 60 (s_al 0 61) := k_aload_n (dk_aload_n_0 (by decide +kernel : bk1 cX9_joinLine 60 42 = true)) rfl
theorem oX9_joinLine_61 : pm_okF cX9_joinLine RX9 4 false 61 (s_const (.int 0) 62) := k_iconst (dk_iconst_0 (by decide +kernel : bk1 cX9_joinLine 61 3 = true)) (by decide)
theorem oX9_joinLine_62 : ∃ I : pm_M, pm_at pm_P 257 = some I ∧ I.2.2.2.2.2.1 = 0 ∧ I.2.2.2.2.2.2.1 = 0 ∧ pm_okC cX9_joinLine RX9 4 false 62 I.1 I.2.1 I.2.2.1 I.2.2.2.1 2 (some 9) 0 0 := ⟨iX9_hasRead, aiX9_hasRead, rfl, rfl, k_callV (n := 1) (T := TX9) (N := 45) (dk_invokevirtual (by decide +kernel : bk3 cX9_joinLine 62 182 174 = true)) rfl w_6_169 w_6_166 w_6_168 w_0_73 w_1_10 (by decide +kernel) (by decide) (by decide)⟩
theorem oX9_joinLine_65 : pm_okF cX9_joinLine RX9 4 false 65 (s_i2l 66) := k_i2l (dk_i2l (by decide +kernel : bk1 cX9_joinLine 65 133 = true))
theorem oX9_joinLine_66 : pm_okF cX9_joinLine RX9 4 false 66 (s_const (.long 1) 67) := k_lconst (dk_lconst_1 (by decide +kernel : bk1 cX9_joinLine 66 10 = true)) (by decide)
theorem oX9_joinLine_67 : pm_okF cX9_joinLine RX9 4 false 67 (s_lbin (fun x y => x + y) 68) := k_ladd (dk_ladd (by decide +kernel : bk1 cX9_joinLine 67 97 = true))
theorem oX9_joinLine_68 : ∃ I : pm_M, pm_at pm_P 261 = some I ∧ I.2.2.2.2.2.1 = 0 ∧ I.2.2.2.2.2.2.1 = 0 ∧ pm_okC cX9_joinLine RX9 4 false 68 I.1 I.2.1 I.2.2.1 I.2.2.2.1 3 (none) 0 0 := ⟨iX9_in, aiX9_in, rfl, rfl, k_callS (n := 3) (dk_invokestatic (by decide +kernel : bk3 cX9_joinLine 68 184 97 = true)) w_6_72 w_6_70 w_6_71 w_1_10 (by decide +kernel) (by decide)⟩
theorem oX9_joinLine_71 : pm_okF cX9_joinLine RX9 4 false 71 (s_if (fun x => decide (x = 0)) 98 74) := k_if_eq (dk_ifCond_eq (by decide +kernel : bkS cX9_joinLine 71 153 27 = true)) (by decide)
theorem oX9_joinLine_74 : pm_okF cX9_joinLine RX9 4 false 74 (s_al 0 75) := k_aload_n (dk_aload_n_0 (by decide +kernel : bk1 cX9_joinLine 74 42 = true)) rfl
theorem oX9_joinLine_75 : pm_okF cX9_joinLine RX9 4 false 75 (s_il 2 76) := k_iload_n (dk_iload_n_2 (by decide +kernel : bk1 cX9_joinLine 75 28 = true)) rfl
theorem oX9_joinLine_76 : pm_okF cX9_joinLine RX9 4 false 76 (s_al 0 77) := k_aload_n (dk_aload_n_0 (by decide +kernel : bk1 cX9_joinLine 76 42 = true)) rfl
theorem oX9_joinLine_77 : pm_okF cX9_joinLine RX9 4 false 77 (s_getf 9 10 80) := k_getf (C := RX9) (T := TX9) (N := 45) rfl inX9 (by decide) w_5_176 (dk_getfield (by decide +kernel : bk3 cX9_joinLine 77 180 126 = true))
theorem oX9_joinLine_80 : pm_okF cX9_joinLine RX9 4 false 80 (s_al 0 81) := k_aload_n (dk_aload_n_0 (by decide +kernel : bk1 cX9_joinLine 80 42 = true)) rfl
theorem oX9_joinLine_81 : pm_okF cX9_joinLine RX9 4 false 81 (s_const (.int 0) 82) := k_iconst (dk_iconst_0 (by decide +kernel : bk1 cX9_joinLine 81 3 = true)) (by decide)
theorem oX9_joinLine_82 : ∃ I : pm_M, pm_at pm_P 257 = some I ∧ I.2.2.2.2.2.1 = 0 ∧ I.2.2.2.2.2.2.1 = 0 ∧ pm_okC cX9_joinLine RX9 4 false 82 I.1 I.2.1 I.2.2.1 I.2.2.2.1 2 (some 9) 0 0 := ⟨iX9_hasRead, aiX9_hasRead, rfl, rfl, k_callV (n := 1) (T := TX9) (N := 45) (dk_invokevirtual (by decide +kernel : bk3 cX9_joinLine 82 182 174 = true)) rfl w_6_169 w_6_166 w_6_168 w_0_73 w_1_10 (by decide +kernel) (by decide) (by decide)⟩
theorem oX9_joinLine_85 : pm_okF cX9_joinLine RX9 4 false 85 (s_const (.int 1) 86) := k_iconst (dk_iconst_1 (by decide +kernel : bk1 cX9_joinLine 85 4 = true)) (by decide)
theorem oX9_joinLine_86 : pm_okF cX9_joinLine RX9 4 false 86 (s_bin (fun x y => x + y) 87) := k_iadd (dk_iadd (by decide +kernel : bk1 cX9_joinLine 86 96 = true))
theorem oX9_joinLine_87 : ∃ I : pm_M, pm_at pm_P 309 = some I ∧ I.2.2.2.2.2.1 = 0 ∧ I.2.2.2.2.2.2.1 = 0 ∧ pm_okC cX9_joinLine RX9 4 false 87 I.1 I.2.1 I.2.2.1 I.2.2.2.1 4 (some 9) 0 0 := ⟨iX9_mayJoin, aiX9_mayJoin, rfl, rfl, k_callV (n := 3) (T := TX9) (N := 45) (dk_invokevirtual (by decide +kernel : bk3 cX9_joinLine 87 182 185 = true)) rfl w_6_198 w_6_195 w_6_197 w_0_78 w_1_10 (by decide +kernel) (by decide) (by decide)⟩
theorem oX9_joinLine_90 : pm_okF cX9_joinLine RX9 4 false 90 (s_if (fun x => decide (¬ x = 0)) 98 93) := k_if_ne (dk_ifCond_ne (by decide +kernel : bkS cX9_joinLine 90 154 8 = true)) (by decide)
theorem oX9_joinLine_93 : pm_okF cX9_joinLine RX9 4 false 93 (s_al 0 94) := k_aload_n (dk_aload_n_0 (by decide +kernel : bk1 cX9_joinLine 93 42 = true)) rfl
theorem oX9_joinLine_94 : pm_okF cX9_joinLine RX9 4 false 94 (s_const (.int 2) 95) := k_iconst (dk_iconst_2 (by decide +kernel : bk1 cX9_joinLine 94 5 = true)) (by decide)
theorem oX9_joinLine_95 : ∃ I : pm_M, pm_at pm_P 243 = some I ∧ I.2.2.2.2.2.1 = 0 ∧ I.2.2.2.2.2.2.1 = 0 ∧ pm_okC cX9_joinLine RX9 4 false 95 I.1 I.2.1 I.2.2.1 I.2.2.2.1 2 (some 9) 0 0 := ⟨iX9_fails, aiX9_fails, rfl, rfl, k_callV (n := 1) (T := TX9) (N := 45) (dk_invokevirtual (by decide +kernel : bk3 cX9_joinLine 95 182 160 = true)) rfl w_6_149 w_6_146 w_6_148 w_0_69 w_1_10 (by decide +kernel) (by decide) (by decide)⟩
theorem oX9_joinLine_98 : pm_okF cX9_joinLine RX9 4 false 98 (s_al 0 99) := k_aload_n (dk_aload_n_0 (by decide +kernel : bk1 cX9_joinLine 98 42 = true)) rfl
theorem oX9_joinLine_99 : pm_okF cX9_joinLine RX9 4 false 99 (s_const (.int 1) 100) := k_iconst (dk_iconst_1 (by decide +kernel : bk1 cX9_joinLine 99 4 = true)) (by decide)
theorem oX9_joinLine_100 : pm_okF cX9_joinLine RX9 4 false 100 (s_al 0 101) := k_aload_n (dk_aload_n_0 (by decide +kernel : bk1 cX9_joinLine 100 42 = true)) rfl
theorem oX9_joinLine_101 : pm_okF cX9_joinLine RX9 4 false 101 (s_const (.int 0) 102) := k_iconst (dk_iconst_0 (by decide +kernel : bk1 cX9_joinLine 101 3 = true)) (by decide)
theorem oX9_joinLine_102 : ∃ I : pm_M, pm_at pm_P 257 = some I ∧ I.2.2.2.2.2.1 = 0 ∧ I.2.2.2.2.2.2.1 = 0 ∧ pm_okC cX9_joinLine RX9 4 false 102 I.1 I.2.1 I.2.2.1 I.2.2.2.1 2 (some 9) 0 0 := ⟨iX9_hasRead, aiX9_hasRead, rfl, rfl, k_callV (n := 1) (T := TX9) (N := 45) (dk_invokevirtual (by decide +kernel : bk3 cX9_joinLine 102 182 174 = true)) rfl w_6_169 w_6_166 w_6_168 w_0_73 w_1_10 (by decide +kernel) (by decide) (by decide)⟩
theorem oX9_joinLine_105 : pm_okF cX9_joinLine RX9 4 false 105 (s_const (.int 1) 106) := k_iconst (dk_iconst_1 (by decide +kernel : bk1 cX9_joinLine 105 4 = true)) (by decide)
theorem oX9_joinLine_106 : pm_okF cX9_joinLine RX9 4 false 106 (s_bin (fun x y => x + y) 107) := k_iadd (dk_iadd (by decide +kernel : bk1 cX9_joinLine 106 96 = true))
theorem oX9_joinLine_107 : ∃ I : pm_M, pm_at pm_P 316 = some I ∧ I.2.2.2.2.2.1 = 0 ∧ I.2.2.2.2.2.2.1 = 0 ∧ pm_okC cX9_joinLine RX9 4 false 107 I.1 I.2.1 I.2.2.1 I.2.2.2.1 3 (some 9) 0 0 := ⟨iX9_number, aiX9_number, rfl, rfl, k_callV (n := 2) (T := TX9) (N := 45) (dk_invokevirtual (by decide +kernel : bk3 cX9_joinLine 107 182 167 = true)) rfl w_6_158 w_6_155 w_6_157 w_0_71 w_1_10 (by decide +kernel) (by decide) (by decide)⟩
theorem oX9_joinLine_110 : pm_okF cX9_joinLine RX9 4 false 110 (s_is 3 111) := k_istore_n (dk_istore_n_3 (by decide +kernel : bk1 cX9_joinLine 110 62 = true)) rfl (by decide)
theorem oX9_joinLine_111 : pm_okF cX9_joinLine RX9 4 false 111 (s_al 0 112) := k_aload_n (dk_aload_n_0 (by decide +kernel : bk1 cX9_joinLine 111 42 = true)) rfl
theorem oX9_joinLine_112 : pm_okF cX9_joinLine RX9 4 false 112 (s_getf 9 12 115) := k_getf (C := RX9) (T := TX9) (N := 45) rfl inX9 (by decide) w_5_178 (dk_getfield (by decide +kernel : bk3 cX9_joinLine 112 180 144 = true))
theorem oX9_joinLine_115 : pm_okF cX9_joinLine RX9 4 false 115 (s_if (fun x => decide (x = 0)) 119 118) := k_if_eq (dk_ifCond_eq (by decide +kernel : bkS cX9_joinLine 115 153 4 = true)) (by decide)
theorem oX9_joinLine_118 : pm_okR cX9_joinLine none 118 0 := ⟨rfl, (dk_return (by decide +kernel : bk1 cX9_joinLine 118 177 = true))⟩
theorem oX9_joinLine_119 : pm_okF cX9_joinLine RX9 4 false 119 (s_al 0 120) := k_aload_n (dk_aload_n_0 (by decide +kernel : bk1 cX9_joinLine 119 42 = true)) rfl
theorem oX9_joinLine_120 : pm_okF cX9_joinLine RX9 4 false 120 (s_getf 9 19 123) := k_getf (C := RX9) (T := TX9) (N := 45) rfl inX9 (by decide) w_5_185 (dk_getfield (by decide +kernel : bk3 cX9_joinLine 120 180 40 = true))
theorem oX9_joinLine_123 : pm_okF cX9_joinLine RX9 4 false 123 (s_il 1 124) := k_iload_n (dk_iload_n_1 (by decide +kernel : bk1 cX9_joinLine 123 27 = true)) rfl
theorem oX9_joinLine_124 : pm_okF cX9_joinLine RX9 4 false 124 (s_il 2 125) := k_iload_n (dk_iload_n_2 (by decide +kernel : bk1 cX9_joinLine 124 28 = true)) rfl
theorem oX9_joinLine_125 : pm_okF cX9_joinLine RX9 4 false 125 (s_iast 126) := k_iast (dk_iastore (by decide +kernel : bk1 cX9_joinLine 125 79 = true))
theorem oX9_joinLine_126 : pm_okF cX9_joinLine RX9 4 false 126 (s_al 0 127) := k_aload_n (dk_aload_n_0 (by decide +kernel : bk1 cX9_joinLine 126 42 = true)) rfl
theorem oX9_joinLine_127 : pm_okF cX9_joinLine RX9 4 false 127 (s_getf 9 19 130) := k_getf (C := RX9) (T := TX9) (N := 45) rfl inX9 (by decide) w_5_185 (dk_getfield (by decide +kernel : bk3 cX9_joinLine 127 180 40 = true))
theorem oX9_joinLine_130 : pm_okF cX9_joinLine RX9 4 false 130 (s_il 1 131) := k_iload_n (dk_iload_n_1 (by decide +kernel : bk1 cX9_joinLine 130 27 = true)) rfl
theorem oX9_joinLine_131 : pm_okF cX9_joinLine RX9 4 false 131 (s_const (.int 1) 132) := k_iconst (dk_iconst_1 (by decide +kernel : bk1 cX9_joinLine 131 4 = true)) (by decide)
theorem oX9_joinLine_132 : pm_okF cX9_joinLine RX9 4 false 132 (s_bin (fun x y => x + y) 133) := k_iadd (dk_iadd (by decide +kernel : bk1 cX9_joinLine 132 96 = true))
theorem oX9_joinLine_133 : pm_okF cX9_joinLine RX9 4 false 133 (s_il 3 134) := k_iload_n (dk_iload_n_3 (by decide +kernel : bk1 cX9_joinLine 133 29 = true)) rfl
theorem oX9_joinLine_134 : pm_okF cX9_joinLine RX9 4 false 134 (s_iast 135) := k_iast (dk_iastore (by decide +kernel : bk1 cX9_joinLine 134 79 = true))
theorem oX9_joinLine_135 : pm_okF cX9_joinLine RX9 4 false 135 (s_al 0 136) := k_aload_n (dk_aload_n_0 (by decide +kernel : bk1 cX9_joinLine 135 42 = true)) rfl
theorem oX9_joinLine_136 : pm_okF cX9_joinLine RX9 4 false 136 (s_const (.int 4) 137) := k_iconst (dk_iconst_4 (by decide +kernel : bk1 cX9_joinLine 136 7 = true)) (by decide)
theorem oX9_joinLine_137 : pm_okF cX9_joinLine RX9 4 false 137 (s_al 0 138) := k_aload_n (dk_aload_n_0 (by decide +kernel : bk1 cX9_joinLine 137 42 = true)) rfl
theorem oX9_joinLine_138 : pm_okF cX9_joinLine RX9 4 false 138 (s_const (.int 4) 139) := k_iconst (dk_iconst_4 (by decide +kernel : bk1 cX9_joinLine 138 7 = true)) (by decide)
theorem oX9_joinLine_139 : ∃ I : pm_M, pm_at pm_P 257 = some I ∧ I.2.2.2.2.2.1 = 0 ∧ I.2.2.2.2.2.2.1 = 0 ∧ pm_okC cX9_joinLine RX9 4 false 139 I.1 I.2.1 I.2.2.1 I.2.2.2.1 2 (some 9) 0 0 := ⟨iX9_hasRead, aiX9_hasRead, rfl, rfl, k_callV (n := 1) (T := TX9) (N := 45) (dk_invokevirtual (by decide +kernel : bk3 cX9_joinLine 139 182 174 = true)) rfl w_6_169 w_6_166 w_6_168 w_0_73 w_1_10 (by decide +kernel) (by decide) (by decide)⟩
theorem oX9_joinLine_142 : pm_okF cX9_joinLine RX9 4 false 142 (s_const (.int 1) 143) := k_iconst (dk_iconst_1 (by decide +kernel : bk1 cX9_joinLine 142 4 = true)) (by decide)
theorem oX9_joinLine_143 : pm_okF cX9_joinLine RX9 4 false 143 (s_bin (fun x y => x + y) 144) := k_iadd (dk_iadd (by decide +kernel : bk1 cX9_joinLine 143 96 = true))
theorem oX9_joinLine_144 : ∃ I : pm_M, pm_at pm_P 359 = some I ∧ I.2.2.2.2.2.1 = 0 ∧ I.2.2.2.2.2.2.1 = 0 ∧ pm_okC cX9_joinLine RX9 4 false 144 I.1 I.2.1 I.2.2.1 I.2.2.2.1 3 (some 9) 0 0 := ⟨iX9_tells, aiX9_tells, rfl, rfl, k_callV (n := 2) (T := TX9) (N := 45) (dk_invokevirtual (by decide +kernel : bk3 cX9_joinLine 144 182 188 = true)) rfl w_6_111 w_6_108 w_6_110 w_0_61 w_1_10 (by decide +kernel) (by decide) (by decide)⟩
theorem oX9_joinLine_147 : pm_okR cX9_joinLine none 147 0 := ⟨rfl, (dk_return (by decide +kernel : bk1 cX9_joinLine 147 177 = true))⟩
set_option maxRecDepth 20000 in
theorem oX9_joinLine : pm_okM pm_P iX9_joinLine := ⟨rfl, (fun h => by cases h), List.forall_mem_cons.mpr ⟨oX9_joinLine_0, List.forall_mem_cons.mpr ⟨oX9_joinLine_1, List.forall_mem_cons.mpr ⟨oX9_joinLine_3, List.forall_mem_cons.mpr ⟨oX9_joinLine_4, List.forall_mem_cons.mpr ⟨oX9_joinLine_5, List.forall_mem_cons.mpr ⟨oX9_joinLine_8, List.forall_mem_cons.mpr ⟨oX9_joinLine_10, List.forall_mem_cons.mpr ⟨oX9_joinLine_13, List.forall_mem_cons.mpr ⟨oX9_joinLine_14, List.forall_mem_cons.mpr ⟨oX9_joinLine_15, List.forall_mem_cons.mpr ⟨oX9_joinLine_16, List.forall_mem_cons.mpr ⟨oX9_joinLine_17, List.forall_mem_cons.mpr ⟨oX9_joinLine_18, List.forall_mem_cons.mpr ⟨oX9_joinLine_19, List.forall_mem_cons.mpr ⟨oX9_joinLine_20, List.forall_mem_cons.mpr ⟨oX9_joinLine_23, List.forall_mem_cons.mpr ⟨oX9_joinLine_24, List.forall_mem_cons.mpr ⟨oX9_joinLine_25, List.forall_mem_cons.mpr ⟨oX9_joinLine_28, List.forall_mem_cons.mpr ⟨oX9_joinLine_29, List.forall_mem_cons.mpr ⟨oX9_joinLine_30, List.forall_mem_cons.mpr ⟨oX9_joinLine_31, List.forall_mem_cons.mpr ⟨oX9_joinLine_32, List.forall_mem_cons.mpr ⟨oX9_joinLine_33, List.forall_mem_cons.mpr ⟨oX9_joinLine_36, List.forall_mem_cons.mpr ⟨oX9_joinLine_39, List.forall_mem_cons.mpr ⟨oX9_joinLine_40, List.forall_mem_cons.mpr ⟨oX9_joinLine_43, List.forall_mem_cons.mpr ⟨oX9_joinLine_46, List.forall_mem_cons.mpr ⟨oX9_joinLine_47, List.forall_mem_cons.mpr ⟨oX9_joinLine_50, List.forall_mem_cons.mpr ⟨oX9_joinLine_51, List.forall_mem_cons.mpr ⟨oX9_joinLine_54, List.forall_mem_cons.mpr ⟨oX9_joinLine_55, List.forall_mem_cons.mpr ⟨oX9_joinLine_58, List.forall_mem_cons.mpr ⟨oX9_joinLine_59, List.forall_mem_cons.mpr ⟨oX9_joinLine_60, List.forall_mem_cons.mpr ⟨oX9_joinLine_61, List.forall_mem_cons.mpr ⟨oX9_joinLine_62, List.forall_mem_cons.mpr ⟨oX9_joinLine_65, List.forall_mem_cons.mpr ⟨oX9_joinLine_66, List.forall_mem_cons.mpr ⟨oX9_joinLine_67, List.forall_mem_cons.mpr ⟨oX9_joinLine_68, List.forall_mem_cons.mpr ⟨oX9_joinLine_71, List.forall_mem_cons.mpr ⟨oX9_joinLine_74, List.forall_mem_cons.mpr ⟨oX9_joinLine_75, List.forall_mem_cons.mpr ⟨oX9_joinLine_76, List.forall_mem_cons.mpr ⟨oX9_joinLine_77, List.forall_mem_cons.mpr ⟨oX9_joinLine_80, List.forall_mem_cons.mpr ⟨oX9_joinLine_81, List.forall_mem_cons.mpr ⟨oX9_joinLine_82, List.forall_mem_cons.mpr ⟨oX9_joinLine_85, List.forall_mem_cons.mpr ⟨oX9_joinLine_86, List.forall_mem_cons.mpr ⟨oX9_joinLine_87, List.forall_mem_cons.mpr ⟨oX9_joinLine_90, List.forall_mem_cons.mpr ⟨oX9_joinLine_93, List.forall_mem_cons.mpr ⟨oX9_joinLine_94, List.forall_mem_cons.mpr ⟨oX9_joinLine_95, List.forall_mem_cons.mpr ⟨oX9_joinLine_98, List.forall_mem_cons.mpr ⟨oX9_joinLine_99, List.forall_mem_cons.mpr ⟨oX9_joinLine_100, List.forall_mem_cons.mpr ⟨oX9_joinLine_101, List.forall_mem_cons.mpr ⟨oX9_joinLine_102, List.forall_mem_cons.mpr ⟨oX9_joinLine_105, List.forall_mem_cons.mpr ⟨oX9_joinLine_106, List.forall_mem_cons.mpr ⟨oX9_joinLine_107, List.forall_mem_cons.mpr ⟨oX9_joinLine_110, List.forall_mem_cons.mpr ⟨oX9_joinLine_111, List.forall_mem_cons.mpr ⟨oX9_joinLine_112, List.forall_mem_cons.mpr ⟨oX9_joinLine_115, List.forall_mem_cons.mpr ⟨oX9_joinLine_118, List.forall_mem_cons.mpr ⟨oX9_joinLine_119, List.forall_mem_cons.mpr ⟨oX9_joinLine_120, List.forall_mem_cons.mpr ⟨oX9_joinLine_123, List.forall_mem_cons.mpr ⟨oX9_joinLine_124, List.forall_mem_cons.mpr ⟨oX9_joinLine_125, List.forall_mem_cons.mpr ⟨oX9_joinLine_126, List.forall_mem_cons.mpr ⟨oX9_joinLine_127, List.forall_mem_cons.mpr ⟨oX9_joinLine_130, List.forall_mem_cons.mpr ⟨oX9_joinLine_131, List.forall_mem_cons.mpr ⟨oX9_joinLine_132, List.forall_mem_cons.mpr ⟨oX9_joinLine_133, List.forall_mem_cons.mpr ⟨oX9_joinLine_134, List.forall_mem_cons.mpr ⟨oX9_joinLine_135, List.forall_mem_cons.mpr ⟨oX9_joinLine_136, List.forall_mem_cons.mpr ⟨oX9_joinLine_137, List.forall_mem_cons.mpr ⟨oX9_joinLine_138, List.forall_mem_cons.mpr ⟨oX9_joinLine_139, List.forall_mem_cons.mpr ⟨oX9_joinLine_142, List.forall_mem_cons.mpr ⟨oX9_joinLine_143, List.forall_mem_cons.mpr ⟨oX9_joinLine_144, List.forall_mem_cons.mpr ⟨oX9_joinLine_147, fun _ h => absurd h List.not_mem_nil⟩⟩⟩⟩⟩⟩⟩⟩⟩⟩⟩⟩⟩⟩⟩⟩⟩⟩⟩⟩⟩⟩⟩⟩⟩⟩⟩⟩⟩⟩⟩⟩⟩⟩⟩⟩⟩⟩⟩⟩⟩⟩⟩⟩⟩⟩⟩⟩⟩⟩⟩⟩⟩⟩⟩⟩⟩⟩⟩⟩⟩⟩⟩⟩⟩⟩⟩⟩⟩⟩⟩⟩⟩⟩⟩⟩⟩⟩⟩⟩⟩⟩⟩⟩⟩⟩⟩⟩⟩⟩⟩⟩⟩
end
section
/-! the rows are sound (written by tab2.py) -/
set_option maxRecDepth 20000 in
theorem oX9_joins0 : pm_okM pm_P iX9_joins0 := rows_M (kd := 0) rfl (fun h => by cases h) (abX9_joins0 w0) poRX9_g pcRX9_g rfl (by decide +kernel)
set_option maxRecDepth 20000 in
theorem oX9_kids : pm_okM pm_P iX9_kids := rows_M (kd := 1) rfl (fun h => by cases h) (abX9_kids w0) poRX9_g pcRX9_g rfl (by decide +kernel)
set_option maxRecDepth 20000 in
theorem oX9_kidsOf : pm_okM pm_P iX9_kidsOf := rows_M (kd := 1) rfl (fun h => by cases h) (abX9_kidsOf w0) poRX9_g pcRX9_g rfl (by decide +kernel)
set_option maxRecDepth 20000 in
theorem oX9_label : pm_okM pm_P iX9_label := rows_M (kd := 1) rfl (fun h => by cases h) (abX9_label w0) poRX9_g pcRX9_g rfl (by decide +kernel)
set_option maxRecDepth 20000 in
theorem oX9_labelAt : pm_okM pm_P iX9_labelAt := rows_M (kd := 1) rfl (fun h => by cases h) (abX9_labelAt w0) poRX9_g pcRX9_g rfl (by decide +kernel)
set_option maxRecDepth 20000 in
theorem oX9_labelOf : pm_okM pm_P iX9_labelOf := rows_M (kd := 1) rfl (fun h => by cases h) (abX9_labelOf w0) poRX9_g pcRX9_g rfl (by decide +kernel)
set_option maxRecDepth 20000 in
theorem oX9_labels : pm_okM pm_P iX9_labels := rows_M (kd := 1) rfl (fun h => by cases h) (abX9_labels w0) poRX9_g pcRX9_g rfl (by decide +kernel)
set_option maxRecDepth 20000 in
theorem oX9_law : pm_okM pm_P iX9_law := rows_M (kd := 1) rfl (fun h => by cases h) (abX9_law w0) poRX9_g pcRX9_g rfl (by decide +kernel)
set_option maxRecDepth 20000 in
theorem oX9_lawful : pm_okM pm_P iX9_lawful := rows_M (kd := 1) rfl (fun h => by cases h) (abX9_lawful w0) poRX9_g pcRX9_g rfl (by decide +kernel)
set_option maxRecDepth 20000 in
theorem oX9_laws : pm_okM pm_P iX9_laws := rows_M (kd := 1) rfl (fun h => by cases h) (abX9_laws w0) poRX9_g pcRX9_g rfl (by decide +kernel)
set_option maxRecDepth 20000 in
theorem oX9_lays : pm_okM pm_P iX9_lays := rows_M (kd := 0) rfl (fun h => by cases h) (abX9_lays w0) poRX9_g pcRX9_g rfl (by decide +kernel)
set_option maxRecDepth 20000 in
theorem oX9_laysBlocks : pm_okM pm_P iX9_laysBlocks := rows_M (kd := 0) rfl (fun h => by cases h) (abX9_laysBlocks w0) poRX9_g pcRX9_g rfl (by decide +kernel)
set_option maxRecDepth 20000 in
theorem oX9_laysCode : pm_okM pm_P iX9_laysCode := rows_M (kd := 0) rfl (fun h => by cases h) (abX9_laysCode w0) poRX9_g pcRX9_g rfl (by decide +kernel)
set_option maxRecDepth 20000 in
theorem oX9_laysNow : pm_okM pm_P iX9_laysNow := rows_M (kd := 0) rfl (fun h => by cases h) (abX9_laysNow w0) poRX9_g pcRX9_g rfl (by decide +kernel)
set_option maxRecDepth 20000 in
theorem oX9_laysSeen : pm_okM pm_P iX9_laysSeen := rows_M (kd := 0) rfl (fun h => by cases h) (abX9_laysSeen w0) poRX9_g pcRX9_g rfl (by decide +kernel)
set_option maxRecDepth 20000 in
theorem oX9_laysSlot : pm_okM pm_P iX9_laysSlot := rows_M (kd := 0) rfl (fun h => by cases h) (abX9_laysSlot w0) poRX9_g pcRX9_g rfl (by decide +kernel)
set_option maxRecDepth 20000 in
theorem oX9_laysTree : pm_okM pm_P iX9_laysTree := rows_M (kd := 0) rfl (fun h => by cases h) (abX9_laysTree w0) poRX9_g pcRX9_g rfl (by decide +kernel)
set_option maxRecDepth 20000 in
theorem oX9_leaves : pm_okM pm_P iX9_leaves := rows_M (kd := 1) rfl (fun h => by cases h) (abX9_leaves w0) poRX9_g pcRX9_g rfl (by decide +kernel)
set_option maxRecDepth 20000 in
theorem oX9_lessOf : pm_okM pm_P iX9_lessOf := rows_M (kd := 1) rfl (fun h => by cases h) (abX9_lessOf w0) poRX9_g pcRX9_g rfl (by decide +kernel)
end
section
/-! the rows are sound (written by tab2.py) -/
set_option maxRecDepth 20000 in
theorem oX9_likes : pm_okM pm_P iX9_likes := rows_M (kd := 1) rfl (fun h => by cases h) (abX9_likes w0) poRX9_g pcRX9_g rfl (by decide +kernel)
theorem oX9_limbsOf_0 : pm_okF cX9_limbsOf RX9 5 false 0 (s_il 1 1) := k_iload_n (dk_iload_n_1 (by decide +kernel : bk1 cX9_limbsOf 0 27 = true)) rfl
theorem oX9_limbsOf_1 : pm_okF cX9_limbsOf RX9 5 false 1 (s_if (fun x => decide (x = 0)) 21 4) := k_if_eq (dk_ifCond_eq (by decide +kernel : bkS cX9_limbsOf 1 153 20 = true)) (by decide)
theorem oX9_limbsOf_4 : pm_okF cX9_limbsOf RX9 5 false 4 (s_il 2 5) := k_iload_n (dk_iload_n_2 (by decide +kernel : bk1 cX9_limbsOf 4 28 = true)) rfl
theorem oX9_limbsOf_5 : pm_okF cX9_limbsOf RX9 5 false 5 (s_al 0 6) := k_aload_n (dk_aload_n_0 (by decide +kernel : bk1 cX9_limbsOf 5 42 = true)) rfl
theorem oX9_limbsOf_6 : pm_okF cX9_limbsOf RX9 5 false 6 (s_getf 9 28 9) := k_getf (C := RX9) (T := TX9) (N := 45) rfl inX9 (by decide) w_5_194 (dk_getfield (by decide +kernel : bk3 cX9_limbsOf 6 180 59 = true))
theorem oX9_limbsOf_9 : pm_okF cX9_limbsOf RX9 5 false 9 (s_il 1 10) := k_iload_n (dk_iload_n_1 (by decide +kernel : bk1 cX9_limbsOf 9 27 = true)) rfl
theorem oX9_limbsOf_10 : pm_okF cX9_limbsOf RX9 5 false 10 (s_iald 11) := k_iald (dk_iaload (by decide +kernel : bk1 cX9_limbsOf 10 46 = true))
theorem oX9_limbsOf_11 : ∃ I : pm_M, pm_at pm_P 265 = some I ∧ I.2.2.2.2.2.1 = 0 ∧ I.2.2.2.2.2.2.1 = 0 ∧ pm_okC cX9_limbsOf RX9 5 false 11 I.1 I.2.1 I.2.2.1 I.2.2.2.1 2 (none) 0 0 := ⟨iX9_isBit, aiX9_isBit, rfl, rfl, k_callS (n := 2) (dk_invokestatic (by decide +kernel : bk3 cX9_limbsOf 11 184 274 = true)) w_7_15 w_7_13 w_7_14 w_1_10 (by decide +kernel) (by decide)⟩
theorem oX9_limbsOf_14 : pm_okF cX9_limbsOf RX9 5 false 14 (s_if (fun x => decide (¬ x = 0)) 21 17) := k_if_ne (dk_ifCond_ne (by decide +kernel : bkS cX9_limbsOf 14 154 7 = true)) (by decide)
theorem oX9_limbsOf_17 : pm_okF cX9_limbsOf RX9 5 false 17 (s_const (.int 1) 18) := k_iconst (dk_iconst_1 (by decide +kernel : bk1 cX9_limbsOf 17 4 = true)) (by decide)
theorem oX9_limbsOf_18 : pm_okF cX9_limbsOf RX9 5 false 18 (s_goto 22) := k_goto (dk_goto (by decide +kernel : bkS cX9_limbsOf 18 167 4 = true)) (by decide)
theorem oX9_limbsOf_21 : pm_okF cX9_limbsOf RX9 5 false 21 (s_const (.int 0) 22) := k_iconst (dk_iconst_0 (by decide +kernel : bk1 cX9_limbsOf 21 3 = true)) (by decide)
theorem oX9_limbsOf_22 : pm_okF cX9_limbsOf RX9 5 false 22 (s_is 3 23) := k_istore_n (dk_istore_n_3 (by decide +kernel : bk1 cX9_limbsOf 22 62 = true)) rfl (by decide)
theorem oX9_limbsOf_23 : pm_okF cX9_limbsOf RX9 5 false 23 (s_const (.int 1) 24) := k_iconst (dk_iconst_1 (by decide +kernel : bk1 cX9_limbsOf 23 4 = true)) (by decide)
theorem oX9_limbsOf_24 : pm_okF cX9_limbsOf RX9 5 false 24 (s_is 4 26) := k_istore (dk_istore (by decide +kernel : bk2 cX9_limbsOf 24 54 4 = true)) (by decide)
theorem oX9_limbsOf_26 : pm_okF cX9_limbsOf RX9 5 false 26 (s_il 4 28) := k_iload (dk_iload (by decide +kernel : bk2 cX9_limbsOf 26 21 4 = true))
theorem oX9_limbsOf_28 : pm_okF cX9_limbsOf RX9 5 false 28 (s_al 0 29) := k_aload_n (dk_aload_n_0 (by decide +kernel : bk1 cX9_limbsOf 28 42 = true)) rfl
theorem oX9_limbsOf_29 : ∃ I : pm_M, pm_at pm_P 325 = some I ∧ I.2.2.2.2.2.1 = 0 ∧ I.2.2.2.2.2.2.1 = 0 ∧ pm_okC cX9_limbsOf RX9 5 false 29 I.1 I.2.1 I.2.2.1 I.2.2.2.1 1 (some 9) 0 0 := ⟨iX9_places, aiX9_places, rfl, rfl, k_callV (n := 0) (T := TX9) (N := 45) (dk_invokevirtual (by decide +kernel : bk3 cX9_limbsOf 29 182 249 = true)) rfl w_7_23 w_7_20 w_7_22 w_0_90 w_1_10 (by decide +kernel) (by decide) (by decide)⟩
theorem oX9_limbsOf_32 : pm_okF cX9_limbsOf RX9 5 false 32 (s_icmp (fun x y => decide (y < x)) 69 35) := k_icmp_gt (dk_if_icmp_gt (by decide +kernel : bkS cX9_limbsOf 32 163 37 = true)) (by decide)
theorem oX9_limbsOf_35 : pm_okF cX9_limbsOf RX9 5 false 35 (s_il 3 36) := k_iload_n (dk_iload_n_3 (by decide +kernel : bk1 cX9_limbsOf 35 29 = true)) rfl
theorem oX9_limbsOf_36 : pm_okF cX9_limbsOf RX9 5 false 36 (s_al 0 37) := k_aload_n (dk_aload_n_0 (by decide +kernel : bk1 cX9_limbsOf 36 42 = true)) rfl
theorem oX9_limbsOf_37 : pm_okF cX9_limbsOf RX9 5 false 37 (s_getf 9 28 40) := k_getf (C := RX9) (T := TX9) (N := 45) rfl inX9 (by decide) w_5_194 (dk_getfield (by decide +kernel : bk3 cX9_limbsOf 37 180 59 = true))
theorem oX9_limbsOf_40 : pm_okF cX9_limbsOf RX9 5 false 40 (s_il 4 42) := k_iload (dk_iload (by decide +kernel : bk2 cX9_limbsOf 40 21 4 = true))
theorem oX9_limbsOf_42 : pm_okF cX9_limbsOf RX9 5 false 42 (s_iald 43) := k_iald (dk_iaload (by decide +kernel : bk1 cX9_limbsOf 42 46 = true))
theorem oX9_limbsOf_43 : pm_okF cX9_limbsOf RX9 5 false 43 (s_il 1 44) := k_iload_n (dk_iload_n_1 (by decide +kernel : bk1 cX9_limbsOf 43 27 = true)) rfl
theorem oX9_limbsOf_44 : pm_okF cX9_limbsOf RX9 5 false 44 (s_icmp (fun x y => decide (¬ x = y)) 60 47) := k_icmp_ne (dk_if_icmp_ne (by decide +kernel : bkS cX9_limbsOf 44 160 16 = true)) (by decide)
theorem oX9_limbsOf_47 : pm_okF cX9_limbsOf RX9 5 false 47 (s_il 2 48) := k_iload_n (dk_iload_n_2 (by decide +kernel : bk1 cX9_limbsOf 47 28 = true)) rfl
theorem oX9_limbsOf_48 : pm_okF cX9_limbsOf RX9 5 false 48 (s_il 4 50) := k_iload (dk_iload (by decide +kernel : bk2 cX9_limbsOf 48 21 4 = true))
theorem oX9_limbsOf_50 : ∃ I : pm_M, pm_at pm_P 265 = some I ∧ I.2.2.2.2.2.1 = 0 ∧ I.2.2.2.2.2.2.1 = 0 ∧ pm_okC cX9_limbsOf RX9 5 false 50 I.1 I.2.1 I.2.2.1 I.2.2.2.1 2 (none) 0 0 := ⟨iX9_isBit, aiX9_isBit, rfl, rfl, k_callS (n := 2) (dk_invokestatic (by decide +kernel : bk3 cX9_limbsOf 50 184 274 = true)) w_7_15 w_7_13 w_7_14 w_1_10 (by decide +kernel) (by decide)⟩
theorem oX9_limbsOf_53 : pm_okF cX9_limbsOf RX9 5 false 53 (s_if (fun x => decide (¬ x = 0)) 60 56) := k_if_ne (dk_ifCond_ne (by decide +kernel : bkS cX9_limbsOf 53 154 7 = true)) (by decide)
theorem oX9_limbsOf_56 : pm_okF cX9_limbsOf RX9 5 false 56 (s_const (.int 1) 57) := k_iconst (dk_iconst_1 (by decide +kernel : bk1 cX9_limbsOf 56 4 = true)) (by decide)
theorem oX9_limbsOf_57 : pm_okF cX9_limbsOf RX9 5 false 57 (s_goto 61) := k_goto (dk_goto (by decide +kernel : bkS cX9_limbsOf 57 167 4 = true)) (by decide)
theorem oX9_limbsOf_60 : pm_okF cX9_limbsOf RX9 5 false 60 (s_const (.int 0) 61) := k_iconst (dk_iconst_0 (by decide +kernel : bk1 cX9_limbsOf 60 3 = true)) (by decide)
theorem oX9_limbsOf_61 : pm_okF cX9_limbsOf RX9 5 false 61 (s_bin (fun x y => x + y) 62) := k_iadd (dk_iadd (by decide +kernel : bk1 cX9_limbsOf 61 96 = true))
theorem oX9_limbsOf_62 : pm_okF cX9_limbsOf RX9 5 false 62 (s_is 3 63) := k_istore_n (dk_istore_n_3 (by decide +kernel : bk1 cX9_limbsOf 62 62 = true)) rfl (by decide)
theorem oX9_limbsOf_63 : pm_okF cX9_limbsOf RX9 5 false 63 (s_inc 4 1 66) := k_iinc (dk_iinc (by decide +kernel : bkI cX9_limbsOf 63 132 4 1 = true)) (by decide) (by decide)
theorem oX9_limbsOf_66 : pm_okF cX9_limbsOf RX9 5 false 66 (s_goto 26) := k_goto (dk_goto (by decide +kernel : bkS cX9_limbsOf 66 167 (-40) = true)) (by decide)
theorem oX9_limbsOf_69 : pm_okF cX9_limbsOf RX9 5 false 69 (s_il 3 70) := k_iload_n (dk_iload_n_3 (by decide +kernel : bk1 cX9_limbsOf 69 29 = true)) rfl
theorem oX9_limbsOf_70 : pm_okR cX9_limbsOf (some .int) 70 1 := ⟨rfl, (dk_ireturn (by decide +kernel : bk1 cX9_limbsOf 70 172 = true))⟩
set_option maxRecDepth 20000 in
theorem oX9_limbsOf : pm_okM pm_P iX9_limbsOf := ⟨rfl, (fun h => by cases h), List.forall_mem_cons.mpr ⟨oX9_limbsOf_0, List.forall_mem_cons.mpr ⟨oX9_limbsOf_1, List.forall_mem_cons.mpr ⟨oX9_limbsOf_4, List.forall_mem_cons.mpr ⟨oX9_limbsOf_5, List.forall_mem_cons.mpr ⟨oX9_limbsOf_6, List.forall_mem_cons.mpr ⟨oX9_limbsOf_9, List.forall_mem_cons.mpr ⟨oX9_limbsOf_10, List.forall_mem_cons.mpr ⟨oX9_limbsOf_11, List.forall_mem_cons.mpr ⟨oX9_limbsOf_14, List.forall_mem_cons.mpr ⟨oX9_limbsOf_17, List.forall_mem_cons.mpr ⟨oX9_limbsOf_18, List.forall_mem_cons.mpr ⟨oX9_limbsOf_21, List.forall_mem_cons.mpr ⟨oX9_limbsOf_22, List.forall_mem_cons.mpr ⟨oX9_limbsOf_23, List.forall_mem_cons.mpr ⟨oX9_limbsOf_24, List.forall_mem_cons.mpr ⟨oX9_limbsOf_26, List.forall_mem_cons.mpr ⟨oX9_limbsOf_28, List.forall_mem_cons.mpr ⟨oX9_limbsOf_29, List.forall_mem_cons.mpr ⟨oX9_limbsOf_32, List.forall_mem_cons.mpr ⟨oX9_limbsOf_35, List.forall_mem_cons.mpr ⟨oX9_limbsOf_36, List.forall_mem_cons.mpr ⟨oX9_limbsOf_37, List.forall_mem_cons.mpr ⟨oX9_limbsOf_40, List.forall_mem_cons.mpr ⟨oX9_limbsOf_42, List.forall_mem_cons.mpr ⟨oX9_limbsOf_43, List.forall_mem_cons.mpr ⟨oX9_limbsOf_44, List.forall_mem_cons.mpr ⟨oX9_limbsOf_47, List.forall_mem_cons.mpr ⟨oX9_limbsOf_48, List.forall_mem_cons.mpr ⟨oX9_limbsOf_50, List.forall_mem_cons.mpr ⟨oX9_limbsOf_53, List.forall_mem_cons.mpr ⟨oX9_limbsOf_56, List.forall_mem_cons.mpr ⟨oX9_limbsOf_57, List.forall_mem_cons.mpr ⟨oX9_limbsOf_60, List.forall_mem_cons.mpr ⟨oX9_limbsOf_61, List.forall_mem_cons.mpr ⟨oX9_limbsOf_62, List.forall_mem_cons.mpr ⟨oX9_limbsOf_63, List.forall_mem_cons.mpr ⟨oX9_limbsOf_66, List.forall_mem_cons.mpr ⟨oX9_limbsOf_69, List.forall_mem_cons.mpr ⟨oX9_limbsOf_70, fun _ h => absurd h List.not_mem_nil⟩⟩⟩⟩⟩⟩⟩⟩⟩⟩⟩⟩⟩⟩⟩⟩⟩⟩⟩⟩⟩⟩⟩⟩⟩⟩⟩⟩⟩⟩⟩⟩⟩⟩⟩⟩⟩⟩⟩⟩
theorem oX9_lineHere_0 : pm_okF cX9_lineHere RX9 1 false 0 (s_al 0 1) := k_aload_n (dk_aload_n_0 (by decide +kernel : bk1 cX9_lineHere 0 42 = true)) rfl
theorem oX9_lineHere_1 : pm_okF cX9_lineHere RX9 1 false 1 (s_const (.long 2232) 4) := k_ldc2 (dk_ldc2_w (by decide +kernel : bk3 cX9_lineHere 1 20 198 = true)) w_6_165
theorem oX9_lineHere_4 : ∃ I : pm_M, pm_at pm_P 264 = some I ∧ I.2.2.2.2.2.1 = 0 ∧ I.2.2.2.2.2.2.1 = 0 ∧ pm_okC cX9_lineHere RX9 1 false 4 I.1 I.2.1 I.2.2.1 I.2.2.2.1 2 (some 9) 0 0 := ⟨iX9_is, aiX9_is, rfl, rfl, k_callV (n := 1) (T := TX9) (N := 45) (dk_invokevirtual (by decide +kernel : bk3 cX9_lineHere 4 182 150 = true)) rfl w_6_145 w_6_142 w_6_144 w_0_68 w_1_10 (by decide +kernel) (by decide) (by decide)⟩
theorem oX9_lineHere_7 : pm_okF cX9_lineHere RX9 1 false 7 (s_if (fun x => decide (x = 0)) 47 10) := k_if_eq (dk_ifCond_eq (by decide +kernel : bkS cX9_lineHere 7 153 40 = true)) (by decide)
theorem oX9_lineHere_10 : pm_okF cX9_lineHere RX9 1 false 10 (s_al 0 11) := k_aload_n (dk_aload_n_0 (by decide +kernel : bk1 cX9_lineHere 10 42 = true)) rfl
theorem oX9_lineHere_11 : pm_okF cX9_lineHere RX9 1 false 11 (s_const (.int 3) 12) := k_iconst (dk_iconst_3 (by decide +kernel : bk1 cX9_lineHere 11 6 = true)) (by decide)
theorem oX9_lineHere_12 : ∃ I : pm_M, pm_at pm_P 257 = some I ∧ I.2.2.2.2.2.1 = 0 ∧ I.2.2.2.2.2.2.1 = 0 ∧ pm_okC cX9_lineHere RX9 1 false 12 I.1 I.2.1 I.2.2.1 I.2.2.2.1 2 (some 9) 0 0 := ⟨iX9_hasRead, aiX9_hasRead, rfl, rfl, k_callV (n := 1) (T := TX9) (N := 45) (dk_invokevirtual (by decide +kernel : bk3 cX9_lineHere 12 182 174 = true)) rfl w_6_169 w_6_166 w_6_168 w_0_73 w_1_10 (by decide +kernel) (by decide) (by decide)⟩
theorem oX9_lineHere_15 : pm_okF cX9_lineHere RX9 1 false 15 (s_al 0 16) := k_aload_n (dk_aload_n_0 (by decide +kernel : bk1 cX9_lineHere 15 42 = true)) rfl
theorem oX9_lineHere_16 : pm_okF cX9_lineHere RX9 1 false 16 (s_const (.int 0) 17) := k_iconst (dk_iconst_0 (by decide +kernel : bk1 cX9_lineHere 16 3 = true)) (by decide)
theorem oX9_lineHere_17 : ∃ I : pm_M, pm_at pm_P 257 = some I ∧ I.2.2.2.2.2.1 = 0 ∧ I.2.2.2.2.2.2.1 = 0 ∧ pm_okC cX9_lineHere RX9 1 false 17 I.1 I.2.1 I.2.2.1 I.2.2.2.1 2 (some 9) 0 0 := ⟨iX9_hasRead, aiX9_hasRead, rfl, rfl, k_callV (n := 1) (T := TX9) (N := 45) (dk_invokevirtual (by decide +kernel : bk3 cX9_lineHere 17 182 174 = true)) rfl w_6_169 w_6_166 w_6_168 w_0_73 w_1_10 (by decide +kernel) (by decide) (by decide)⟩
theorem oX9_lineHere_20 : pm_okF cX9_lineHere RX9 1 false 20 (s_icmp (fun x y => decide (¬ x = y)) 28 23) := k_icmp_ne (dk_if_icmp_ne (by decide +kernel : bkS cX9_lineHere 20 160 8 = true)) (by decide)
theorem oX9_lineHere_23 : pm_okF cX9_lineHere RX9 1 false 23 (s_al 0 24) := k_aload_n (dk_aload_n_0 (by decide +kernel : bk1 cX9_lineHere 23 42 = true)) rfl
theorem oX9_lineHere_24 : pm_okF cX9_lineHere RX9 1 false 24 (s_const (.int 3) 25) := k_iconst (dk_iconst_3 (by decide +kernel : bk1 cX9_lineHere 24 6 = true)) (by decide)
theorem oX9_lineHere_25 : ∃ I : pm_M, pm_at pm_P 243 = some I ∧ I.2.2.2.2.2.1 = 0 ∧ I.2.2.2.2.2.2.1 = 0 ∧ pm_okC cX9_lineHere RX9 1 false 25 I.1 I.2.1 I.2.2.1 I.2.2.2.1 2 (some 9) 0 0 := ⟨iX9_fails, aiX9_fails, rfl, rfl, k_callV (n := 1) (T := TX9) (N := 45) (dk_invokevirtual (by decide +kernel : bk3 cX9_lineHere 25 182 160 = true)) rfl w_6_149 w_6_146 w_6_148 w_0_69 w_1_10 (by decide +kernel) (by decide) (by decide)⟩
theorem oX9_lineHere_28 : pm_okF cX9_lineHere RX9 1 false 28 (s_al 0 29) := k_aload_n (dk_aload_n_0 (by decide +kernel : bk1 cX9_lineHere 28 42 = true)) rfl
theorem oX9_lineHere_29 : pm_okF cX9_lineHere RX9 1 false 29 (s_getf 9 12 32) := k_getf (C := RX9) (T := TX9) (N := 45) rfl inX9 (by decide) w_5_178 (dk_getfield (by decide +kernel : bk3 cX9_lineHere 29 180 144 = true))
theorem oX9_lineHere_32 : pm_okF cX9_lineHere RX9 1 false 32 (s_if (fun x => decide (x = 0)) 36 35) := k_if_eq (dk_ifCond_eq (by decide +kernel : bkS cX9_lineHere 32 153 4 = true)) (by decide)
theorem oX9_lineHere_35 : pm_okR cX9_lineHere none 35 0 := ⟨rfl, (dk_return (by decide +kernel : bk1 cX9_lineHere 35 177 = true))⟩
theorem oX9_lineHere_36 : pm_okF cX9_lineHere RX9 1 false 36 (s_al 0 37) := k_aload_n (dk_aload_n_0 (by decide +kernel : bk1 cX9_lineHere 36 42 = true)) rfl
theorem oX9_lineHere_37 : ∃ I : pm_M, pm_at pm_P 251 = some I ∧ I.2.2.2.2.2.1 = 0 ∧ I.2.2.2.2.2.2.1 = 0 ∧ pm_okC cX9_lineHere RX9 1 false 37 I.1 I.2.1 I.2.2.1 I.2.2.2.1 1 (some 9) 0 0 := ⟨iX9_follows, aiX9_follows, rfl, rfl, k_callV (n := 0) (T := TX9) (N := 45) (dk_invokevirtual (by decide +kernel : bk3 cX9_lineHere 37 182 154 = true)) rfl w_6_119 w_6_116 w_6_118 w_0_63 w_1_10 (by decide +kernel) (by decide) (by decide)⟩
theorem oX9_lineHere_40 : pm_okF cX9_lineHere RX9 1 false 40 (s_al 0 41) := k_aload_n (dk_aload_n_0 (by decide +kernel : bk1 cX9_lineHere 40 42 = true)) rfl
theorem oX9_lineHere_41 : ∃ I : pm_M, pm_at pm_P 223 = some I ∧ I.2.2.2.2.2.1 = 0 ∧ I.2.2.2.2.2.2.1 = 0 ∧ pm_okC cX9_lineHere RX9 1 false 41 I.1 I.2.1 I.2.2.1 I.2.2.2.1 1 (some 9) 0 0 := ⟨iX9_carLine, aiX9_carLine, rfl, rfl, k_callV (n := 0) (T := TX9) (N := 45) (dk_invokevirtual (by decide +kernel : bk3 cX9_lineHere 41 182 200 = true)) rfl w_6_173 w_6_170 w_6_172 w_0_74 w_1_10 (by decide +kernel) (by decide) (by decide)⟩
theorem oX9_lineHere_44 : pm_okF cX9_lineHere RX9 1 false 44 (s_goto 73) := k_goto (dk_goto (by decide +kernel : bkS cX9_lineHere 44 167 29 = true)) (by decide)
theorem oX9_lineHere_47 : pm_okF cX9_lineHere RX9 1 false 47 (s_al 0 48) := k_aload_n (dk_aload_n_0 (by decide +kernel : bk1 cX9_lineHere 47 42 = true)) rfl
theorem oX9_lineHere_48 : pm_okF cX9_lineHere RX9 1 false 48 (s_const (.long 208022) 51) := k_ldc2 (dk_ldc2_w (by decide +kernel : bk3 cX9_lineHere 48 20 203 = true)) w_6_176
theorem oX9_lineHere_51 : ∃ I : pm_M, pm_at pm_P 264 = some I ∧ I.2.2.2.2.2.1 = 0 ∧ I.2.2.2.2.2.2.1 = 0 ∧ pm_okC cX9_lineHere RX9 1 false 51 I.1 I.2.1 I.2.2.1 I.2.2.2.1 2 (some 9) 0 0 := ⟨iX9_is, aiX9_is, rfl, rfl, k_callV (n := 1) (T := TX9) (N := 45) (dk_invokevirtual (by decide +kernel : bk3 cX9_lineHere 51 182 150 = true)) rfl w_6_145 w_6_142 w_6_144 w_0_68 w_1_10 (by decide +kernel) (by decide) (by decide)⟩
theorem oX9_lineHere_54 : pm_okF cX9_lineHere RX9 1 false 54 (s_if (fun x => decide (x = 0)) 68 57) := k_if_eq (dk_ifCond_eq (by decide +kernel : bkS cX9_lineHere 54 153 14 = true)) (by decide)
theorem oX9_lineHere_57 : pm_okF cX9_lineHere RX9 1 false 57 (s_al 0 58) := k_aload_n (dk_aload_n_0 (by decide +kernel : bk1 cX9_lineHere 57 42 = true)) rfl
theorem oX9_lineHere_58 : ∃ I : pm_M, pm_at pm_P 251 = some I ∧ I.2.2.2.2.2.1 = 0 ∧ I.2.2.2.2.2.2.1 = 0 ∧ pm_okC cX9_lineHere RX9 1 false 58 I.1 I.2.1 I.2.2.1 I.2.2.2.1 1 (some 9) 0 0 := ⟨iX9_follows, aiX9_follows, rfl, rfl, k_callV (n := 0) (T := TX9) (N := 45) (dk_invokevirtual (by decide +kernel : bk3 cX9_lineHere 58 182 154 = true)) rfl w_6_119 w_6_116 w_6_118 w_0_63 w_1_10 (by decide +kernel) (by decide) (by decide)⟩
theorem oX9_lineHere_61 : pm_okF cX9_lineHere RX9 1 false 61 (s_al 0 62) := k_aload_n (dk_aload_n_0 (by decide +kernel : bk1 cX9_lineHere 61 42 = true)) rfl
theorem oX9_lineHere_62 : ∃ I : pm_M, pm_at pm_P 282 = some I ∧ I.2.2.2.2.2.1 = 0 ∧ I.2.2.2.2.2.2.1 = 0 ∧ pm_okC cX9_lineHere RX9 1 false 62 I.1 I.2.1 I.2.2.1 I.2.2.2.1 1 (some 9) 0 0 := ⟨iX9_joinLine, aiX9_joinLine, rfl, rfl, k_callV (n := 0) (T := TX9) (N := 45) (dk_invokevirtual (by decide +kernel : bk3 cX9_lineHere 62 182 205 = true)) rfl w_6_180 w_6_177 w_6_179 w_0_75 w_1_10 (by decide +kernel) (by decide) (by decide)⟩
theorem oX9_lineHere_65 : pm_okF cX9_lineHere RX9 1 false 65 (s_goto 73) := k_goto (dk_goto (by decide +kernel : bkS cX9_lineHere 65 167 8 = true)) (by decide)
theorem oX9_lineHere_68 : pm_okF cX9_lineHere RX9 1 false 68 (s_al 0 69) := k_aload_n (dk_aload_n_0 (by decide +kernel : bk1 cX9_lineHere 68 42 = true)) rfl
theorem oX9_lineHere_69 : pm_okF cX9_lineHere RX9 1 false 69 (s_const (.int 1) 70) := k_iconst (dk_iconst_1 (by decide +kernel : bk1 cX9_lineHere 69 4 = true)) (by decide)
theorem oX9_lineHere_70 : ∃ I : pm_M, pm_at pm_P 243 = some I ∧ I.2.2.2.2.2.1 = 0 ∧ I.2.2.2.2.2.2.1 = 0 ∧ pm_okC cX9_lineHere RX9 1 false 70 I.1 I.2.1 I.2.2.1 I.2.2.2.1 2 (some 9) 0 0 := ⟨iX9_fails, aiX9_fails, rfl, rfl, k_callV (n := 1) (T := TX9) (N := 45) (dk_invokevirtual (by decide +kernel : bk3 cX9_lineHere 70 182 160 = true)) rfl w_6_149 w_6_146 w_6_148 w_0_69 w_1_10 (by decide +kernel) (by decide) (by decide)⟩
theorem oX9_lineHere_73 : pm_okR cX9_lineHere none 73 0 := ⟨rfl, (dk_return (by decide +kernel : bk1 cX9_lineHere 73 177 = true))⟩
set_option maxRecDepth 20000 in
theorem oX9_lineHere : pm_okM pm_P iX9_lineHere := ⟨rfl, (fun h => by cases h), List.forall_mem_cons.mpr ⟨oX9_lineHere_0, List.forall_mem_cons.mpr ⟨oX9_lineHere_1, List.forall_mem_cons.mpr ⟨oX9_lineHere_4, List.forall_mem_cons.mpr ⟨oX9_lineHere_7, List.forall_mem_cons.mpr ⟨oX9_lineHere_10, List.forall_mem_cons.mpr ⟨oX9_lineHere_11, List.forall_mem_cons.mpr ⟨oX9_lineHere_12, List.forall_mem_cons.mpr ⟨oX9_lineHere_15, List.forall_mem_cons.mpr ⟨oX9_lineHere_16, List.forall_mem_cons.mpr ⟨oX9_lineHere_17, List.forall_mem_cons.mpr ⟨oX9_lineHere_20, List.forall_mem_cons.mpr ⟨oX9_lineHere_23, List.forall_mem_cons.mpr ⟨oX9_lineHere_24, List.forall_mem_cons.mpr ⟨oX9_lineHere_25, List.forall_mem_cons.mpr ⟨oX9_lineHere_28, List.forall_mem_cons.mpr ⟨oX9_lineHere_29, List.forall_mem_cons.mpr ⟨oX9_lineHere_32, List.forall_mem_cons.mpr ⟨oX9_lineHere_35, List.forall_mem_cons.mpr ⟨oX9_lineHere_36, List.forall_mem_cons.mpr ⟨oX9_lineHere_37, List.forall_mem_cons.mpr ⟨oX9_lineHere_40, List.forall_mem_cons.mpr ⟨oX9_lineHere_41, List.forall_mem_cons.mpr ⟨oX9_lineHere_44, List.forall_mem_cons.mpr ⟨oX9_lineHere_47, List.forall_mem_cons.mpr ⟨oX9_lineHere_48, List.forall_mem_cons.mpr ⟨oX9_lineHere_51, List.forall_mem_cons.mpr ⟨oX9_lineHere_54, List.forall_mem_cons.mpr ⟨oX9_lineHere_57, List.forall_mem_cons.mpr ⟨oX9_lineHere_58, List.forall_mem_cons.mpr ⟨oX9_lineHere_61, List.forall_mem_cons.mpr ⟨oX9_lineHere_62, List.forall_mem_cons.mpr ⟨oX9_lineHere_65, List.forall_mem_cons.mpr ⟨oX9_lineHere_68, List.forall_mem_cons.mpr ⟨oX9_lineHere_69, List.forall_mem_cons.mpr ⟨oX9_lineHere_70, List.forall_mem_cons.mpr ⟨oX9_lineHere_73, fun _ h => absurd h List.not_mem_nil⟩⟩⟩⟩⟩⟩⟩⟩⟩⟩⟩⟩⟩⟩⟩⟩⟩⟩⟩⟩⟩⟩⟩⟩⟩⟩⟩⟩⟩⟩⟩⟩⟩⟩⟩⟩⟩
set_option maxRecDepth 20000 in
theorem oX9_lost : pm_okM pm_P iX9_lost := rows_M (kd := 1) rfl (fun h => by cases h) (abX9_lost w0) poRX9_g pcRX9_g rfl (by decide +kernel)
set_option maxRecDepth 20000 in
theorem oX9_luck : pm_okM pm_P iX9_luck := rows_M (kd := 1) rfl (fun h => by cases h) (abX9_luck w0) poRX9_g pcRX9_g rfl (by decide +kernel)
set_option maxRecDepth 20000 in
theorem oX9_lucky : pm_okM pm_P iX9_lucky := rows_M (kd := 1) rfl (fun h => by cases h) (abX9_lucky w0) poRX9_g pcRX9_g rfl (by decide +kernel)
set_option maxRecDepth 20000 in
theorem oX9_may : pm_okM pm_P iX9_may := rows_M (kd := 1) rfl (fun h => by cases h) (abX9_may w0) poRX9_g pcRX9_g rfl (by decide +kernel)
set_option maxRecDepth 20000 in
theorem oX9_mayJoin : pm_okM pm_P iX9_mayJoin := rows_M (kd := 2) rfl (fun h => by cases h) (abX9_mayJoin w0) poRX9_g pcRX9_g rfl (by decide +kernel)
set_option maxRecDepth 20000 in
theorem oX9_mean : pm_okM pm_P iX9_mean := rows_M (kd := 3) rfl (fun h => by cases h) (abX9_mean w0) poRX9_g pcRX9_g rfl (by decide +kernel)
set_option maxRecDepth 20000 in
theorem oX9_mend : pm_okM pm_P iX9_mend := rows_M (kd := 1) rfl (fun h => by cases h) (abX9_mend w0) poRX9_g pcRX9_g rfl (by decide +kernel)
set_option maxRecDepth 20000 in
theorem oX9_merged : pm_okM pm_P iX9_merged := rows_M (kd := 1) rfl (fun h => by cases h) (abX9_merged w0) poRX9_g pcRX9_g rfl (by decide +kernel)
set_option maxRecDepth 20000 in
theorem oX9_moreOf : pm_okM pm_P iX9_moreOf := rows_M (kd := 1) rfl (fun h => by cases h) (abX9_moreOf w0) poRX9_g pcRX9_g rfl (by decide +kernel)
set_option maxRecDepth 20000 in
theorem oX9_moved : pm_okM pm_P iX9_moved := rows_M (kd := 1) rfl (fun h => by cases h) (abX9_moved w0) poRX9_g pcRX9_g rfl (by decide +kernel)
set_option maxRecDepth 20000 in
theorem oX9_next : pm_okM pm_P iX9_next := rows_M (kd := 1) rfl (fun h => by cases h) (abX9_next w0) poRX9_g pcRX9_g rfl (by decide +kernel)
theorem oX9_number_0 : pm_okF cX9_number RX9 4 false 0 (s_al 0 1) := k_aload_n (dk_aload_n_0 (by decide +kernel : bk1 cX9_number 0 42 = true)) rfl
theorem oX9_number_1 : pm_okF cX9_number RX9 4 false 1 (s_getf 9 12 4) := k_getf (C := RX9) (T := TX9) (N := 45) rfl inX9 (by decide) w_5_178 (dk_getfield (by decide +kernel : bk3 cX9_number 1 180 144 = true))
theorem oX9_number_4 : pm_okF cX9_number RX9 4 false 4 (s_if (fun x => decide (x = 0)) 9 7) := k_if_eq (dk_ifCond_eq (by decide +kernel : bkS cX9_number 4 153 5 = true)) (by decide)
theorem oX9_number_7 : pm_okF cX9_number RX9 4 false 7 (s_il 1 8) := k_iload_n (dk_iload_n_1 (by decide +kernel : bk1 cX9_number 7 27 = true)) rfl
theorem oX9_number_8 : pm_okR cX9_number (some .int) 8 1 := ⟨rfl, (dk_ireturn (by decide +kernel : bk1 cX9_number 8 172 = true))⟩
theorem oX9_number_9 : pm_okF cX9_number RX9 4 false 9 (s_al 0 10) := k_aload_n (dk_aload_n_0 (by decide +kernel : bk1 cX9_number 9 42 = true)) rfl
theorem oX9_number_10 : pm_okF cX9_number RX9 4 false 10 (s_getf 9 8 13) := k_getf (C := RX9) (T := TX9) (N := 45) rfl inX9 (by decide) w_5_174 (dk_getfield (by decide +kernel : bk3 cX9_number 10 180 133 = true))
theorem oX9_number_13 : pm_okF cX9_number RX9 4 false 13 (s_const (.int 2) 14) := k_iconst (dk_iconst_2 (by decide +kernel : bk1 cX9_number 13 5 = true)) (by decide)
theorem oX9_number_14 : pm_okF cX9_number RX9 4 false 14 (s_icmp (fun x y => decide (x = y)) 24 17) := k_icmp_eq (dk_if_icmp_eq (by decide +kernel : bkS cX9_number 14 159 10 = true)) (by decide)
theorem oX9_number_17 : pm_okF cX9_number RX9 4 false 17 (s_al 0 18) := k_aload_n (dk_aload_n_0 (by decide +kernel : bk1 cX9_number 17 42 = true)) rfl
theorem oX9_number_18 : pm_okF cX9_number RX9 4 false 18 (s_const (.int 1) 19) := k_iconst (dk_iconst_1 (by decide +kernel : bk1 cX9_number 18 4 = true)) (by decide)
theorem oX9_number_19 : ∃ I : pm_M, pm_at pm_P 243 = some I ∧ I.2.2.2.2.2.1 = 0 ∧ I.2.2.2.2.2.2.1 = 0 ∧ pm_okC cX9_number RX9 4 false 19 I.1 I.2.1 I.2.2.1 I.2.2.2.1 2 (some 9) 0 0 := ⟨iX9_fails, aiX9_fails, rfl, rfl, k_callV (n := 1) (T := TX9) (N := 45) (dk_invokevirtual (by decide +kernel : bk3 cX9_number 19 182 160 = true)) rfl w_6_149 w_6_146 w_6_148 w_0_69 w_1_10 (by decide +kernel) (by decide) (by decide)⟩
theorem oX9_number_22 : pm_okF cX9_number RX9 4 false 22 (s_il 1 23) := k_iload_n (dk_iload_n_1 (by decide +kernel : bk1 cX9_number 22 27 = true)) rfl
theorem oX9_number_23 : pm_okR cX9_number (some .int) 23 1 := ⟨rfl, (dk_ireturn (by decide +kernel : bk1 cX9_number 23 172 = true))⟩
theorem oX9_number_24 : pm_okF cX9_number RX9 4 false 24 (s_al 0 25) := k_aload_n (dk_aload_n_0 (by decide +kernel : bk1 cX9_number 24 42 = true)) rfl
theorem oX9_number_25 : pm_okF cX9_number RX9 4 false 25 (s_getf 9 10 28) := k_getf (C := RX9) (T := TX9) (N := 45) rfl inX9 (by decide) w_5_176 (dk_getfield (by decide +kernel : bk3 cX9_number 25 180 126 = true))
theorem oX9_number_28 : pm_okF cX9_number RX9 4 false 28 (s_i2l 29) := k_i2l (dk_i2l (by decide +kernel : bk1 cX9_number 28 133 = true))
theorem oX9_number_29 : pm_okF cX9_number RX9 4 false 29 (s_il 1 30) := k_iload_n (dk_iload_n_1 (by decide +kernel : bk1 cX9_number 29 27 = true)) rfl
theorem oX9_number_30 : pm_okF cX9_number RX9 4 false 30 (s_i2l 31) := k_i2l (dk_i2l (by decide +kernel : bk1 cX9_number 30 133 = true))
theorem oX9_number_31 : pm_okF cX9_number RX9 4 false 31 (s_il 2 32) := k_iload_n (dk_iload_n_2 (by decide +kernel : bk1 cX9_number 31 28 = true)) rfl
theorem oX9_number_32 : pm_okF cX9_number RX9 4 false 32 (s_i2l 33) := k_i2l (dk_i2l (by decide +kernel : bk1 cX9_number 32 133 = true))
theorem oX9_number_33 : ∃ I : pm_M, pm_at pm_P 261 = some I ∧ I.2.2.2.2.2.1 = 0 ∧ I.2.2.2.2.2.2.1 = 0 ∧ pm_okC cX9_number RX9 4 false 33 I.1 I.2.1 I.2.2.1 I.2.2.2.1 3 (none) 0 0 := ⟨iX9_in, aiX9_in, rfl, rfl, k_callS (n := 3) (dk_invokestatic (by decide +kernel : bk3 cX9_number 33 184 97 = true)) w_6_72 w_6_70 w_6_71 w_1_10 (by decide +kernel) (by decide)⟩
theorem oX9_number_36 : pm_okF cX9_number RX9 4 false 36 (s_if (fun x => decide (¬ x = 0)) 46 39) := k_if_ne (dk_ifCond_ne (by decide +kernel : bkS cX9_number 36 154 10 = true)) (by decide)
theorem oX9_number_39 : pm_okF cX9_number RX9 4 false 39 (s_al 0 40) := k_aload_n (dk_aload_n_0 (by decide +kernel : bk1 cX9_number 39 42 = true)) rfl
theorem oX9_number_40 : pm_okF cX9_number RX9 4 false 40 (s_const (.int 2) 41) := k_iconst (dk_iconst_2 (by decide +kernel : bk1 cX9_number 40 5 = true)) (by decide)
theorem oX9_number_41 : ∃ I : pm_M, pm_at pm_P 243 = some I ∧ I.2.2.2.2.2.1 = 0 ∧ I.2.2.2.2.2.2.1 = 0 ∧ pm_okC cX9_number RX9 4 false 41 I.1 I.2.1 I.2.2.1 I.2.2.2.1 2 (some 9) 0 0 := ⟨iX9_fails, aiX9_fails, rfl, rfl, k_callV (n := 1) (T := TX9) (N := 45) (dk_invokevirtual (by decide +kernel : bk3 cX9_number 41 182 160 = true)) rfl w_6_149 w_6_146 w_6_148 w_0_69 w_1_10 (by decide +kernel) (by decide) (by decide)⟩
theorem oX9_number_44 : pm_okF cX9_number RX9 4 false 44 (s_il 1 45) := k_iload_n (dk_iload_n_1 (by decide +kernel : bk1 cX9_number 44 27 = true)) rfl
theorem oX9_number_45 : pm_okR cX9_number (some .int) 45 1 := ⟨rfl, (dk_ireturn (by decide +kernel : bk1 cX9_number 45 172 = true))⟩
theorem oX9_number_46 : pm_okF cX9_number RX9 4 false 46 (s_al 0 47) := k_aload_n (dk_aload_n_0 (by decide +kernel : bk1 cX9_number 46 42 = true)) rfl
theorem oX9_number_47 : pm_okF cX9_number RX9 4 false 47 (s_getf 9 10 50) := k_getf (C := RX9) (T := TX9) (N := 45) rfl inX9 (by decide) w_5_176 (dk_getfield (by decide +kernel : bk3 cX9_number 47 180 126 = true))
theorem oX9_number_50 : pm_okF cX9_number RX9 4 false 50 (s_is 3 51) := k_istore_n (dk_istore_n_3 (by decide +kernel : bk1 cX9_number 50 62 = true)) rfl (by decide)
theorem oX9_number_51 : pm_okF cX9_number RX9 4 false 51 (s_al 0 52) := k_aload_n (dk_aload_n_0 (by decide +kernel : bk1 cX9_number 51 42 = true)) rfl
theorem oX9_number_52 : ∃ I : pm_M, pm_at pm_P 251 = some I ∧ I.2.2.2.2.2.1 = 0 ∧ I.2.2.2.2.2.2.1 = 0 ∧ pm_okC cX9_number RX9 4 false 52 I.1 I.2.1 I.2.2.1 I.2.2.2.1 1 (some 9) 0 0 := ⟨iX9_follows, aiX9_follows, rfl, rfl, k_callV (n := 0) (T := TX9) (N := 45) (dk_invokevirtual (by decide +kernel : bk3 cX9_number 52 182 154 = true)) rfl w_6_119 w_6_116 w_6_118 w_0_63 w_1_10 (by decide +kernel) (by decide) (by decide)⟩
theorem oX9_number_55 : pm_okF cX9_number RX9 4 false 55 (s_il 3 56) := k_iload_n (dk_iload_n_3 (by decide +kernel : bk1 cX9_number 55 29 = true)) rfl
theorem oX9_number_56 : pm_okR cX9_number (some .int) 56 1 := ⟨rfl, (dk_ireturn (by decide +kernel : bk1 cX9_number 56 172 = true))⟩
set_option maxRecDepth 20000 in
theorem oX9_number : pm_okM pm_P iX9_number := ⟨rfl, (fun h => by cases h), List.forall_mem_cons.mpr ⟨oX9_number_0, List.forall_mem_cons.mpr ⟨oX9_number_1, List.forall_mem_cons.mpr ⟨oX9_number_4, List.forall_mem_cons.mpr ⟨oX9_number_7, List.forall_mem_cons.mpr ⟨oX9_number_8, List.forall_mem_cons.mpr ⟨oX9_number_9, List.forall_mem_cons.mpr ⟨oX9_number_10, List.forall_mem_cons.mpr ⟨oX9_number_13, List.forall_mem_cons.mpr ⟨oX9_number_14, List.forall_mem_cons.mpr ⟨oX9_number_17, List.forall_mem_cons.mpr ⟨oX9_number_18, List.forall_mem_cons.mpr ⟨oX9_number_19, List.forall_mem_cons.mpr ⟨oX9_number_22, List.forall_mem_cons.mpr ⟨oX9_number_23, List.forall_mem_cons.mpr ⟨oX9_number_24, List.forall_mem_cons.mpr ⟨oX9_number_25, List.forall_mem_cons.mpr ⟨oX9_number_28, List.forall_mem_cons.mpr ⟨oX9_number_29, List.forall_mem_cons.mpr ⟨oX9_number_30, List.forall_mem_cons.mpr ⟨oX9_number_31, List.forall_mem_cons.mpr ⟨oX9_number_32, List.forall_mem_cons.mpr ⟨oX9_number_33, List.forall_mem_cons.mpr ⟨oX9_number_36, List.forall_mem_cons.mpr ⟨oX9_number_39, List.forall_mem_cons.mpr ⟨oX9_number_40, List.forall_mem_cons.mpr ⟨oX9_number_41, List.forall_mem_cons.mpr ⟨oX9_number_44, List.forall_mem_cons.mpr ⟨oX9_number_45, List.forall_mem_cons.mpr ⟨oX9_number_46, List.forall_mem_cons.mpr ⟨oX9_number_47, List.forall_mem_cons.mpr ⟨oX9_number_50, List.forall_mem_cons.mpr ⟨oX9_number_51, List.forall_mem_cons.mpr ⟨oX9_number_52, List.forall_mem_cons.mpr ⟨oX9_number_55, List.forall_mem_cons.mpr ⟨oX9_number_56, fun _ h => absurd h List.not_mem_nil⟩⟩⟩⟩⟩⟩⟩⟩⟩⟩⟩⟩⟩⟩⟩⟩⟩⟩⟩⟩⟩⟩⟩⟩⟩⟩⟩⟩⟩⟩⟩⟩⟩⟩⟩⟩
theorem oX9_number__0 : pm_okF cX9_number_ RX9 5 false 0 (s_al 0 1) := k_aload_n (dk_aload_n_0 (by decide +kernel : bk1 cX9_number_ 0 42 = true)) rfl
theorem oX9_number__1 : pm_okF cX9_number_ RX9 5 false 1 (s_ll 1 2) := k_lload_n (dk_lload_n_1 (by decide +kernel : bk1 cX9_number_ 1 31 = true)) rfl
theorem oX9_number__2 : ∃ I : pm_M, pm_at pm_P 210 = some I ∧ I.2.2.2.2.2.1 = 0 ∧ I.2.2.2.2.2.2.1 = 0 ∧ pm_okC cX9_number_ RX9 5 false 2 I.1 I.2.1 I.2.2.1 I.2.2.2.1 2 (some 9) 0 0 := ⟨iX9_asks, aiX9_asks, rfl, rfl, k_callV (n := 1) (T := TX9) (N := 45) (dk_invokevirtual (by decide +kernel : bk3 cX9_number_ 2 182 163 = true)) rfl w_6_137 w_6_134 w_6_136 w_0_66 w_1_10 (by decide +kernel) (by decide) (by decide)⟩
theorem oX9_number__5 : pm_okF cX9_number_ RX9 5 false 5 (s_al 0 6) := k_aload_n (dk_aload_n_0 (by decide +kernel : bk1 cX9_number_ 5 42 = true)) rfl
theorem oX9_number__6 : pm_okF cX9_number_ RX9 5 false 6 (s_il 3 7) := k_iload_n (dk_iload_n_3 (by decide +kernel : bk1 cX9_number_ 6 29 = true)) rfl
theorem oX9_number__7 : pm_okF cX9_number_ RX9 5 false 7 (s_il 4 9) := k_iload (dk_iload (by decide +kernel : bk2 cX9_number_ 7 21 4 = true))
theorem oX9_number__9 : ∃ I : pm_M, pm_at pm_P 316 = some I ∧ I.2.2.2.2.2.1 = 0 ∧ I.2.2.2.2.2.2.1 = 0 ∧ pm_okC cX9_number_ RX9 5 false 9 I.1 I.2.1 I.2.2.1 I.2.2.2.1 3 (some 9) 0 0 := ⟨iX9_number, aiX9_number, rfl, rfl, k_callV (n := 2) (T := TX9) (N := 45) (dk_invokevirtual (by decide +kernel : bk3 cX9_number_ 9 182 167 = true)) rfl w_6_158 w_6_155 w_6_157 w_0_71 w_1_10 (by decide +kernel) (by decide) (by decide)⟩
theorem oX9_number__12 : pm_okR cX9_number_ (some .int) 12 1 := ⟨rfl, (dk_ireturn (by decide +kernel : bk1 cX9_number_ 12 172 = true))⟩
set_option maxRecDepth 20000 in
theorem oX9_number_ : pm_okM pm_P iX9_number_ := ⟨rfl, (fun h => by cases h), List.forall_mem_cons.mpr ⟨oX9_number__0, List.forall_mem_cons.mpr ⟨oX9_number__1, List.forall_mem_cons.mpr ⟨oX9_number__2, List.forall_mem_cons.mpr ⟨oX9_number__5, List.forall_mem_cons.mpr ⟨oX9_number__6, List.forall_mem_cons.mpr ⟨oX9_number__7, List.forall_mem_cons.mpr ⟨oX9_number__9, List.forall_mem_cons.mpr ⟨oX9_number__12, fun _ h => absurd h List.not_mem_nil⟩⟩⟩⟩⟩⟩⟩⟩⟩
theorem oX9_otherEnd_0 : pm_okF cX9_otherEnd RX9 4 false 0 (s_il 1 1) := k_iload_n (dk_iload_n_1 (by decide +kernel : bk1 cX9_otherEnd 0 27 = true)) rfl
theorem oX9_otherEnd_1 : pm_okF cX9_otherEnd RX9 4 false 1 (s_if (fun x => decide (x = 0)) 24 4) := k_if_eq (dk_ifCond_eq (by decide +kernel : bkS cX9_otherEnd 1 153 23 = true)) (by decide)
theorem oX9_otherEnd_4 : pm_okF cX9_otherEnd RX9 4 false 4 (s_il 2 5) := k_iload_n (dk_iload_n_2 (by decide +kernel : bk1 cX9_otherEnd 4 28 = true)) rfl
theorem oX9_otherEnd_5 : pm_okF cX9_otherEnd RX9 4 false 5 (s_al 0 6) := k_aload_n (dk_aload_n_0 (by decide +kernel : bk1 cX9_otherEnd 5 42 = true)) rfl
theorem oX9_otherEnd_6 : pm_okF cX9_otherEnd RX9 4 false 6 (s_getf 9 28 9) := k_getf (C := RX9) (T := TX9) (N := 45) rfl inX9 (by decide) w_5_194 (dk_getfield (by decide +kernel : bk3 cX9_otherEnd 6 180 59 = true))
theorem oX9_otherEnd_9 : pm_okF cX9_otherEnd RX9 4 false 9 (s_il 1 10) := k_iload_n (dk_iload_n_1 (by decide +kernel : bk1 cX9_otherEnd 9 27 = true)) rfl
theorem oX9_otherEnd_10 : pm_okF cX9_otherEnd RX9 4 false 10 (s_iald 11) := k_iald (dk_iaload (by decide +kernel : bk1 cX9_otherEnd 10 46 = true))
theorem oX9_otherEnd_11 : ∃ I : pm_M, pm_at pm_P 265 = some I ∧ I.2.2.2.2.2.1 = 0 ∧ I.2.2.2.2.2.2.1 = 0 ∧ pm_okC cX9_otherEnd RX9 4 false 11 I.1 I.2.1 I.2.2.1 I.2.2.2.1 2 (none) 0 0 := ⟨iX9_isBit, aiX9_isBit, rfl, rfl, k_callS (n := 2) (dk_invokestatic (by decide +kernel : bk3 cX9_otherEnd 11 184 274 = true)) w_7_15 w_7_13 w_7_14 w_1_10 (by decide +kernel) (by decide)⟩
theorem oX9_otherEnd_14 : pm_okF cX9_otherEnd RX9 4 false 14 (s_if (fun x => decide (¬ x = 0)) 24 17) := k_if_ne (dk_ifCond_ne (by decide +kernel : bkS cX9_otherEnd 14 154 10 = true)) (by decide)
theorem oX9_otherEnd_17 : pm_okF cX9_otherEnd RX9 4 false 17 (s_al 0 18) := k_aload_n (dk_aload_n_0 (by decide +kernel : bk1 cX9_otherEnd 17 42 = true)) rfl
theorem oX9_otherEnd_18 : pm_okF cX9_otherEnd RX9 4 false 18 (s_getf 9 28 21) := k_getf (C := RX9) (T := TX9) (N := 45) rfl inX9 (by decide) w_5_194 (dk_getfield (by decide +kernel : bk3 cX9_otherEnd 18 180 59 = true))
theorem oX9_otherEnd_21 : pm_okF cX9_otherEnd RX9 4 false 21 (s_il 1 22) := k_iload_n (dk_iload_n_1 (by decide +kernel : bk1 cX9_otherEnd 21 27 = true)) rfl
theorem oX9_otherEnd_22 : pm_okF cX9_otherEnd RX9 4 false 22 (s_iald 23) := k_iald (dk_iaload (by decide +kernel : bk1 cX9_otherEnd 22 46 = true))
theorem oX9_otherEnd_23 : pm_okR cX9_otherEnd (some .int) 23 1 := ⟨rfl, (dk_ireturn (by decide +kernel : bk1 cX9_otherEnd 23 172 = true))⟩
theorem oX9_otherEnd_24 : pm_okF cX9_otherEnd RX9 4 false 24 (s_const (.int 1) 25) := k_iconst (dk_iconst_1 (by decide +kernel : bk1 cX9_otherEnd 24 4 = true)) (by decide)
theorem oX9_otherEnd_25 : pm_okF cX9_otherEnd RX9 4 false 25 (s_is 3 26) := k_istore_n (dk_istore_n_3 (by decide +kernel : bk1 cX9_otherEnd 25 62 = true)) rfl (by decide)
theorem oX9_otherEnd_26 : pm_okF cX9_otherEnd RX9 4 false 26 (s_il 3 27) := k_iload_n (dk_iload_n_3 (by decide +kernel : bk1 cX9_otherEnd 26 29 = true)) rfl
theorem oX9_otherEnd_27 : pm_okF cX9_otherEnd RX9 4 false 27 (s_al 0 28) := k_aload_n (dk_aload_n_0 (by decide +kernel : bk1 cX9_otherEnd 27 42 = true)) rfl
theorem oX9_otherEnd_28 : ∃ I : pm_M, pm_at pm_P 325 = some I ∧ I.2.2.2.2.2.1 = 0 ∧ I.2.2.2.2.2.2.1 = 0 ∧ pm_okC cX9_otherEnd RX9 4 false 28 I.1 I.2.1 I.2.2.1 I.2.2.2.1 1 (some 9) 0 0 := ⟨iX9_places, aiX9_places, rfl, rfl, k_callV (n := 0) (T := TX9) (N := 45) (dk_invokevirtual (by decide +kernel : bk3 cX9_otherEnd 28 182 249 = true)) rfl w_7_23 w_7_20 w_7_22 w_0_90 w_1_10 (by decide +kernel) (by decide) (by decide)⟩
theorem oX9_otherEnd_31 : pm_okF cX9_otherEnd RX9 4 false 31 (s_icmp (fun x y => decide (y < x)) 60 34) := k_icmp_gt (dk_if_icmp_gt (by decide +kernel : bkS cX9_otherEnd 31 163 29 = true)) (by decide)
theorem oX9_otherEnd_34 : pm_okF cX9_otherEnd RX9 4 false 34 (s_al 0 35) := k_aload_n (dk_aload_n_0 (by decide +kernel : bk1 cX9_otherEnd 34 42 = true)) rfl
theorem oX9_otherEnd_35 : pm_okF cX9_otherEnd RX9 4 false 35 (s_getf 9 28 38) := k_getf (C := RX9) (T := TX9) (N := 45) rfl inX9 (by decide) w_5_194 (dk_getfield (by decide +kernel : bk3 cX9_otherEnd 35 180 59 = true))
theorem oX9_otherEnd_38 : pm_okF cX9_otherEnd RX9 4 false 38 (s_il 3 39) := k_iload_n (dk_iload_n_3 (by decide +kernel : bk1 cX9_otherEnd 38 29 = true)) rfl
theorem oX9_otherEnd_39 : pm_okF cX9_otherEnd RX9 4 false 39 (s_iald 40) := k_iald (dk_iaload (by decide +kernel : bk1 cX9_otherEnd 39 46 = true))
theorem oX9_otherEnd_40 : pm_okF cX9_otherEnd RX9 4 false 40 (s_il 1 41) := k_iload_n (dk_iload_n_1 (by decide +kernel : bk1 cX9_otherEnd 40 27 = true)) rfl
theorem oX9_otherEnd_41 : pm_okF cX9_otherEnd RX9 4 false 41 (s_icmp (fun x y => decide (¬ x = y)) 54 44) := k_icmp_ne (dk_if_icmp_ne (by decide +kernel : bkS cX9_otherEnd 41 160 13 = true)) (by decide)
theorem oX9_otherEnd_44 : pm_okF cX9_otherEnd RX9 4 false 44 (s_il 2 45) := k_iload_n (dk_iload_n_2 (by decide +kernel : bk1 cX9_otherEnd 44 28 = true)) rfl
theorem oX9_otherEnd_45 : pm_okF cX9_otherEnd RX9 4 false 45 (s_il 3 46) := k_iload_n (dk_iload_n_3 (by decide +kernel : bk1 cX9_otherEnd 45 29 = true)) rfl
theorem oX9_otherEnd_46 : ∃ I : pm_M, pm_at pm_P 265 = some I ∧ I.2.2.2.2.2.1 = 0 ∧ I.2.2.2.2.2.2.1 = 0 ∧ pm_okC cX9_otherEnd RX9 4 false 46 I.1 I.2.1 I.2.2.1 I.2.2.2.1 2 (none) 0 0 := ⟨iX9_isBit, aiX9_isBit, rfl, rfl, k_callS (n := 2) (dk_invokestatic (by decide +kernel : bk3 cX9_otherEnd 46 184 274 = true)) w_7_15 w_7_13 w_7_14 w_1_10 (by decide +kernel) (by decide)⟩
theorem oX9_otherEnd_49 : pm_okF cX9_otherEnd RX9 4 false 49 (s_if (fun x => decide (¬ x = 0)) 54 52) := k_if_ne (dk_ifCond_ne (by decide +kernel : bkS cX9_otherEnd 49 154 5 = true)) (by decide)
theorem oX9_otherEnd_52 : pm_okF cX9_otherEnd RX9 4 false 52 (s_il 3 53) := k_iload_n (dk_iload_n_3 (by decide +kernel : bk1 cX9_otherEnd 52 29 = true)) rfl
theorem oX9_otherEnd_53 : pm_okR cX9_otherEnd (some .int) 53 1 := ⟨rfl, (dk_ireturn (by decide +kernel : bk1 cX9_otherEnd 53 172 = true))⟩
theorem oX9_otherEnd_54 : pm_okF cX9_otherEnd RX9 4 false 54 (s_inc 3 1 57) := k_iinc (dk_iinc (by decide +kernel : bkI cX9_otherEnd 54 132 3 1 = true)) (by decide) (by decide)
theorem oX9_otherEnd_57 : pm_okF cX9_otherEnd RX9 4 false 57 (s_goto 26) := k_goto (dk_goto (by decide +kernel : bkS cX9_otherEnd 57 167 (-31) = true)) (by decide)
theorem oX9_otherEnd_60 : pm_okF cX9_otherEnd RX9 4 false 60 (s_const (.int (-1)) 61) := k_iconst (dk_iconst_m (by decide +kernel : bk1 cX9_otherEnd 60 2 = true)) (by decide)
theorem oX9_otherEnd_61 : pm_okR cX9_otherEnd (some .int) 61 1 := ⟨rfl, (dk_ireturn (by decide +kernel : bk1 cX9_otherEnd 61 172 = true))⟩
set_option maxRecDepth 20000 in
theorem oX9_otherEnd : pm_okM pm_P iX9_otherEnd := ⟨rfl, (fun h => by cases h), List.forall_mem_cons.mpr ⟨oX9_otherEnd_0, List.forall_mem_cons.mpr ⟨oX9_otherEnd_1, List.forall_mem_cons.mpr ⟨oX9_otherEnd_4, List.forall_mem_cons.mpr ⟨oX9_otherEnd_5, List.forall_mem_cons.mpr ⟨oX9_otherEnd_6, List.forall_mem_cons.mpr ⟨oX9_otherEnd_9, List.forall_mem_cons.mpr ⟨oX9_otherEnd_10, List.forall_mem_cons.mpr ⟨oX9_otherEnd_11, List.forall_mem_cons.mpr ⟨oX9_otherEnd_14, List.forall_mem_cons.mpr ⟨oX9_otherEnd_17, List.forall_mem_cons.mpr ⟨oX9_otherEnd_18, List.forall_mem_cons.mpr ⟨oX9_otherEnd_21, List.forall_mem_cons.mpr ⟨oX9_otherEnd_22, List.forall_mem_cons.mpr ⟨oX9_otherEnd_23, List.forall_mem_cons.mpr ⟨oX9_otherEnd_24, List.forall_mem_cons.mpr ⟨oX9_otherEnd_25, List.forall_mem_cons.mpr ⟨oX9_otherEnd_26, List.forall_mem_cons.mpr ⟨oX9_otherEnd_27, List.forall_mem_cons.mpr ⟨oX9_otherEnd_28, List.forall_mem_cons.mpr ⟨oX9_otherEnd_31, List.forall_mem_cons.mpr ⟨oX9_otherEnd_34, List.forall_mem_cons.mpr ⟨oX9_otherEnd_35, List.forall_mem_cons.mpr ⟨oX9_otherEnd_38, List.forall_mem_cons.mpr ⟨oX9_otherEnd_39, List.forall_mem_cons.mpr ⟨oX9_otherEnd_40, List.forall_mem_cons.mpr ⟨oX9_otherEnd_41, List.forall_mem_cons.mpr ⟨oX9_otherEnd_44, List.forall_mem_cons.mpr ⟨oX9_otherEnd_45, List.forall_mem_cons.mpr ⟨oX9_otherEnd_46, List.forall_mem_cons.mpr ⟨oX9_otherEnd_49, List.forall_mem_cons.mpr ⟨oX9_otherEnd_52, List.forall_mem_cons.mpr ⟨oX9_otherEnd_53, List.forall_mem_cons.mpr ⟨oX9_otherEnd_54, List.forall_mem_cons.mpr ⟨oX9_otherEnd_57, List.forall_mem_cons.mpr ⟨oX9_otherEnd_60, List.forall_mem_cons.mpr ⟨oX9_otherEnd_61, fun _ h => absurd h List.not_mem_nil⟩⟩⟩⟩⟩⟩⟩⟩⟩⟩⟩⟩⟩⟩⟩⟩⟩⟩⟩⟩⟩⟩⟩⟩⟩⟩⟩⟩⟩⟩⟩⟩⟩⟩⟩⟩⟩
set_option maxRecDepth 20000 in
theorem oX9_parent : pm_okM pm_P iX9_parent := rows_M (kd := 1) rfl (fun h => by cases h) (abX9_parent w0) poRX9_g pcRX9_g rfl (by decide +kernel)
set_option maxRecDepth 20000 in
theorem oX9_parks : pm_okM pm_P iX9_parks := rows_M (kd := 0) rfl (fun h => by cases h) (abX9_parks w0) poRX9_g pcRX9_g rfl (by decide +kernel)
end
section
/-! the rows are sound (written by tab2.py) -/
set_option maxRecDepth 20000 in
theorem oX9_parksBy : pm_okM pm_P iX9_parksBy := rows_M (kd := 0) rfl (fun h => by cases h) (abX9_parksBy w0) poRX9_g pcRX9_g rfl (by decide +kernel)
set_option maxRecDepth 20000 in
theorem oX9_partOf : pm_okM pm_P iX9_partOf := rows_M (kd := 3) rfl (fun h => by cases h) (abX9_partOf w0) poRX9_g pcRX9_g rfl (by decide +kernel)
set_option maxRecDepth 20000 in
theorem oX9_paste : pm_okM pm_P iX9_paste := rows_M (kd := 1) rfl (fun h => by cases h) (abX9_paste w0) poRX9_g pcRX9_g rfl (by decide +kernel)
set_option maxRecDepth 20000 in
theorem oX9_place : pm_okM pm_P iX9_place := rows_M (kd := 1) rfl (fun h => by cases h) (abX9_place w0) poRX9_g pcRX9_g rfl (by decide +kernel)
set_option maxRecDepth 20000 in
theorem oX9_places : pm_okM pm_P iX9_places := rows_M (kd := 1) rfl (fun h => by cases h) (abX9_places w0) poRX9_g pcRX9_g rfl (by decide +kernel)
set_option maxRecDepth 20000 in
theorem oX9_power : pm_okM pm_P iX9_power := rows_M (kd := 3) rfl (fun h => by cases h) (abX9_power w0) poRX9_g pcRX9_g rfl (by decide +kernel)
set_option maxRecDepth 20000 in
theorem oX9_prime : pm_okM pm_P iX9_prime := rows_M (kd := 1) rfl (fun h => by cases h) (abX9_prime w0) poRX9_g pcRX9_g rfl (by decide +kernel)
set_option maxRecDepth 20000 in
theorem oX9_queue : pm_okM pm_P iX9_queue := rows_M (kd := 1) rfl (fun h => by cases h) (abX9_queue w0) poRX9_g pcRX9_g rfl (by decide +kernel)
set_option maxRecDepth 20000 in
theorem oX9_rate : pm_okM pm_P iX9_rate := rows_M (kd := 1) rfl (fun h => by cases h) (abX9_rate w0) poRX9_g pcRX9_g rfl (by decide +kernel)
set_option maxRecDepth 20000 in
theorem oX9_reads0 : pm_okM pm_P iX9_reads0 := rows_M (kd := 0) rfl (fun h => by cases h) (abX9_reads0 w0) poRX9_g pcRX9_g rfl (by decide +kernel)
set_option maxRecDepth 20000 in
theorem oX9_regain : pm_okM pm_P iX9_regain := rows_M (kd := 1) rfl (fun h => by cases h) (abX9_regain w0) poRX9_g pcRX9_g rfl (by decide +kernel)
set_option maxRecDepth 20000 in
theorem oX9_region : pm_okM pm_P iX9_region := rows_M (kd := 1) rfl (fun h => by cases h) (abX9_region w0) poRX9_g pcRX9_g rfl (by decide +kernel)
set_option maxRecDepth 20000 in
theorem oX9_remain : pm_okM pm_P iX9_remain := rows_M (kd := 1) rfl (fun h => by cases h) (abX9_remain w0) poRX9_g pcRX9_g rfl (by decide +kernel)
set_option maxRecDepth 20000 in
theorem oX9_rests : pm_okM pm_P iX9_rests := rows_M (kd := 1) rfl (fun h => by cases h) (abX9_rests w0) poRX9_g pcRX9_g rfl (by decide +kernel)
set_option maxRecDepth 20000 in
theorem oX9_ring : pm_okM pm_P iX9_ring := rows_M (kd := 1) rfl (fun h => by cases h) (abX9_ring w0) poRX9_g pcRX9_g rfl (by decide +kernel)
set_option maxRecDepth 20000 in
theorem oX9_ringFree : pm_okM pm_P iX9_ringFree := rows_M (kd := 1) rfl (fun h => by cases h) (abX9_ringFree w0) poRX9_g pcRX9_g rfl (by decide +kernel)
theorem oX9_roots_0 : pm_okF cX9_roots RX9 6 false 0 (s_const (.int 1) 1) := k_iconst (dk_iconst_1 (by decide +kernel : bk1 cX9_roots 0 4 = true)) (by decide)
theorem oX9_roots_1 : pm_okF cX9_roots RX9 6 false 1 (s_is 2 2) := k_istore_n (dk_istore_n_2 (by decide +kernel : bk1 cX9_roots 1 61 = true)) rfl (by decide)
theorem oX9_roots_2 : pm_okF cX9_roots RX9 6 false 2 (s_il 2 3) := k_iload_n (dk_iload_n_2 (by decide +kernel : bk1 cX9_roots 2 28 = true)) rfl
theorem oX9_roots_3 : pm_okF cX9_roots RX9 6 false 3 (s_const (.int 1) 4) := k_iconst (dk_iconst_1 (by decide +kernel : bk1 cX9_roots 3 4 = true)) (by decide)
theorem oX9_roots_4 : pm_okF cX9_roots RX9 6 false 4 (s_il 1 5) := k_iload_n (dk_iload_n_1 (by decide +kernel : bk1 cX9_roots 4 27 = true)) rfl
theorem oX9_roots_5 : pm_okF cX9_roots RX9 6 false 5 (s_bin (fun x y => x <<< (y &&& 31)) 6) := k_ishl (dk_ishl (by decide +kernel : bk1 cX9_roots 5 120 = true))
theorem oX9_roots_6 : pm_okF cX9_roots RX9 6 false 6 (s_const (.int 1) 7) := k_iconst (dk_iconst_1 (by decide +kernel : bk1 cX9_roots 6 4 = true)) (by decide)
theorem oX9_roots_7 : pm_okF cX9_roots RX9 6 false 7 (s_bin (fun x y => x - y) 8) := k_isub (dk_isub (by decide +kernel : bk1 cX9_roots 7 100 = true))
theorem oX9_roots_8 : pm_okF cX9_roots RX9 6 false 8 (s_icmp (fun x y => decide (x = y)) 86 11) := k_icmp_eq (dk_if_icmp_eq (by decide +kernel : bkS cX9_roots 8 159 78 = true)) (by decide)
theorem oX9_roots_11 : pm_okF cX9_roots RX9 6 false 11 (s_const (.int 0) 12) := k_iconst (dk_iconst_0 (by decide +kernel : bk1 cX9_roots 11 3 = true)) (by decide)
theorem oX9_roots_12 : pm_okF cX9_roots RX9 6 false 12 (s_is 3 13) := k_istore_n (dk_istore_n_3 (by decide +kernel : bk1 cX9_roots 12 62 = true)) rfl (by decide)
theorem oX9_roots_13 : pm_okF cX9_roots RX9 6 false 13 (s_il 3 14) := k_iload_n (dk_iload_n_3 (by decide +kernel : bk1 cX9_roots 13 29 = true)) rfl
theorem oX9_roots_14 : pm_okF cX9_roots RX9 6 false 14 (s_const (.int 2) 15) := k_iconst (dk_iconst_2 (by decide +kernel : bk1 cX9_roots 14 5 = true)) (by decide)
theorem oX9_roots_15 : pm_okF cX9_roots RX9 6 false 15 (s_il 1 16) := k_iload_n (dk_iload_n_1 (by decide +kernel : bk1 cX9_roots 15 27 = true)) rfl
theorem oX9_roots_16 : pm_okF cX9_roots RX9 6 false 16 (s_const (.int 1) 17) := k_iconst (dk_iconst_1 (by decide +kernel : bk1 cX9_roots 16 4 = true)) (by decide)
theorem oX9_roots_17 : pm_okF cX9_roots RX9 6 false 17 (s_bin (fun x y => x - y) 18) := k_isub (dk_isub (by decide +kernel : bk1 cX9_roots 17 100 = true))
theorem oX9_roots_18 : pm_okF cX9_roots RX9 6 false 18 (s_bin (fun x y => x * y) 19) := k_imul (dk_imul (by decide +kernel : bk1 cX9_roots 18 104 = true))
theorem oX9_roots_19 : pm_okF cX9_roots RX9 6 false 19 (s_icmp (fun x y => decide (y ≤ x)) 83 22) := k_icmp_ge (dk_if_icmp_ge (by decide +kernel : bkS cX9_roots 19 162 64 = true)) (by decide)
theorem oX9_roots_22 : pm_okF cX9_roots RX9 6 false 22 (s_al 0 23) := k_aload_n (dk_aload_n_0 (by decide +kernel : bk1 cX9_roots 22 42 = true)) rfl
theorem oX9_roots_23 : pm_okF cX9_roots RX9 6 false 23 (s_getf 9 32 26) := k_getf (C := RX9) (T := TX9) (N := 45) rfl inX9 (by decide) w_5_198 (dk_getfield (by decide +kernel : bk3 cX9_roots 23 180 71 = true))
theorem oX9_roots_26 : pm_okF cX9_roots RX9 6 false 26 (s_il 3 27) := k_iload_n (dk_iload_n_3 (by decide +kernel : bk1 cX9_roots 26 29 = true)) rfl
theorem oX9_roots_27 : pm_okF cX9_roots RX9 6 false 27 (s_iald 28) := k_iald (dk_iaload (by decide +kernel : bk1 cX9_roots 27 46 = true))
theorem oX9_roots_28 : pm_okF cX9_roots RX9 6 false 28 (s_is 4 30) := k_istore (dk_istore (by decide +kernel : bk2 cX9_roots 28 54 4 = true)) (by decide)
theorem oX9_roots_30 : pm_okF cX9_roots RX9 6 false 30 (s_al 0 31) := k_aload_n (dk_aload_n_0 (by decide +kernel : bk1 cX9_roots 30 42 = true)) rfl
theorem oX9_roots_31 : pm_okF cX9_roots RX9 6 false 31 (s_getf 9 32 34) := k_getf (C := RX9) (T := TX9) (N := 45) rfl inX9 (by decide) w_5_198 (dk_getfield (by decide +kernel : bk3 cX9_roots 31 180 71 = true))
theorem oX9_roots_34 : pm_okF cX9_roots RX9 6 false 34 (s_il 3 35) := k_iload_n (dk_iload_n_3 (by decide +kernel : bk1 cX9_roots 34 29 = true)) rfl
theorem oX9_roots_35 : pm_okF cX9_roots RX9 6 false 35 (s_const (.int 1) 36) := k_iconst (dk_iconst_1 (by decide +kernel : bk1 cX9_roots 35 4 = true)) (by decide)
theorem oX9_roots_36 : pm_okF cX9_roots RX9 6 false 36 (s_bin (fun x y => x ^^^ y) 37) := k_ixor (dk_ixor (by decide +kernel : bk1 cX9_roots 36 130 = true))
theorem oX9_roots_37 : pm_okF cX9_roots RX9 6 false 37 (s_iald 38) := k_iald (dk_iaload (by decide +kernel : bk1 cX9_roots 37 46 = true))
theorem oX9_roots_38 : pm_okF cX9_roots RX9 6 false 38 (s_is 5 40) := k_istore (dk_istore (by decide +kernel : bk2 cX9_roots 38 54 5 = true)) (by decide)
theorem oX9_roots_40 : pm_okF cX9_roots RX9 6 false 40 (s_il 2 41) := k_iload_n (dk_iload_n_2 (by decide +kernel : bk1 cX9_roots 40 28 = true)) rfl
theorem oX9_roots_41 : pm_okF cX9_roots RX9 6 false 41 (s_il 4 43) := k_iload (dk_iload (by decide +kernel : bk2 cX9_roots 41 21 4 = true))
theorem oX9_roots_43 : ∃ I : pm_M, pm_at pm_P 265 = some I ∧ I.2.2.2.2.2.1 = 0 ∧ I.2.2.2.2.2.2.1 = 0 ∧ pm_okC cX9_roots RX9 6 false 43 I.1 I.2.1 I.2.2.1 I.2.2.2.1 2 (none) 0 0 := ⟨iX9_isBit, aiX9_isBit, rfl, rfl, k_callS (n := 2) (dk_invokestatic (by decide +kernel : bk3 cX9_roots 43 184 274 = true)) w_7_15 w_7_13 w_7_14 w_1_10 (by decide +kernel) (by decide)⟩
theorem oX9_roots_46 : pm_okF cX9_roots RX9 6 false 46 (s_if (fun x => decide (x = 0)) 77 49) := k_if_eq (dk_ifCond_eq (by decide +kernel : bkS cX9_roots 46 153 31 = true)) (by decide)
theorem oX9_roots_49 : pm_okF cX9_roots RX9 6 false 49 (s_il 2 50) := k_iload_n (dk_iload_n_2 (by decide +kernel : bk1 cX9_roots 49 28 = true)) rfl
theorem oX9_roots_50 : pm_okF cX9_roots RX9 6 false 50 (s_il 5 52) := k_iload (dk_iload (by decide +kernel : bk2 cX9_roots 50 21 5 = true))
theorem oX9_roots_52 : ∃ I : pm_M, pm_at pm_P 265 = some I ∧ I.2.2.2.2.2.1 = 0 ∧ I.2.2.2.2.2.2.1 = 0 ∧ pm_okC cX9_roots RX9 6 false 52 I.1 I.2.1 I.2.2.1 I.2.2.2.1 2 (none) 0 0 := ⟨iX9_isBit, aiX9_isBit, rfl, rfl, k_callS (n := 2) (dk_invokestatic (by decide +kernel : bk3 cX9_roots 52 184 274 = true)) w_7_15 w_7_13 w_7_14 w_1_10 (by decide +kernel) (by decide)⟩
theorem oX9_roots_55 : pm_okF cX9_roots RX9 6 false 55 (s_if (fun x => decide (x = 0)) 61 58) := k_if_eq (dk_ifCond_eq (by decide +kernel : bkS cX9_roots 55 153 6 = true)) (by decide)
theorem oX9_roots_58 : pm_okF cX9_roots RX9 6 false 58 (s_goto 77) := k_goto (dk_goto (by decide +kernel : bkS cX9_roots 58 167 19 = true)) (by decide)
theorem oX9_roots_61 : pm_okF cX9_roots RX9 6 false 61 (s_al 0 62) := k_aload_n (dk_aload_n_0 (by decide +kernel : bk1 cX9_roots 61 42 = true)) rfl
theorem oX9_roots_62 : pm_okF cX9_roots RX9 6 false 62 (s_getf 9 28 65) := k_getf (C := RX9) (T := TX9) (N := 45) rfl inX9 (by decide) w_5_194 (dk_getfield (by decide +kernel : bk3 cX9_roots 62 180 59 = true))
theorem oX9_roots_65 : pm_okF cX9_roots RX9 6 false 65 (s_il 5 67) := k_iload (dk_iload (by decide +kernel : bk2 cX9_roots 65 21 5 = true))
theorem oX9_roots_67 : pm_okF cX9_roots RX9 6 false 67 (s_il 4 69) := k_iload (dk_iload (by decide +kernel : bk2 cX9_roots 67 21 4 = true))
theorem oX9_roots_69 : pm_okF cX9_roots RX9 6 false 69 (s_iast 70) := k_iast (dk_iastore (by decide +kernel : bk1 cX9_roots 69 79 = true))
theorem oX9_roots_70 : pm_okF cX9_roots RX9 6 false 70 (s_il 2 71) := k_iload_n (dk_iload_n_2 (by decide +kernel : bk1 cX9_roots 70 28 = true)) rfl
theorem oX9_roots_71 : pm_okF cX9_roots RX9 6 false 71 (s_const (.int 1) 72) := k_iconst (dk_iconst_1 (by decide +kernel : bk1 cX9_roots 71 4 = true)) (by decide)
theorem oX9_roots_72 : pm_okF cX9_roots RX9 6 false 72 (s_il 5 74) := k_iload (dk_iload (by decide +kernel : bk2 cX9_roots 72 21 5 = true))
theorem oX9_roots_74 : pm_okF cX9_roots RX9 6 false 74 (s_bin (fun x y => x <<< (y &&& 31)) 75) := k_ishl (dk_ishl (by decide +kernel : bk1 cX9_roots 74 120 = true))
theorem oX9_roots_75 : pm_okF cX9_roots RX9 6 false 75 (s_bin (fun x y => x ||| y) 76) := k_ior (dk_ior (by decide +kernel : bk1 cX9_roots 75 128 = true))
theorem oX9_roots_76 : pm_okF cX9_roots RX9 6 false 76 (s_is 2 77) := k_istore_n (dk_istore_n_2 (by decide +kernel : bk1 cX9_roots 76 61 = true)) rfl (by decide)
theorem oX9_roots_77 : pm_okF cX9_roots RX9 6 false 77 (s_inc 3 1 80) := k_iinc (dk_iinc (by decide +kernel : bkI cX9_roots 77 132 3 1 = true)) (by decide) (by decide)
theorem oX9_roots_80 : pm_okF cX9_roots RX9 6 false 80 (s_goto 13) := k_goto (dk_goto (by decide +kernel : bkS cX9_roots 80 167 (-67) = true)) (by decide)
theorem oX9_roots_83 : pm_okF cX9_roots RX9 6 false 83 (s_goto 2) := k_goto (dk_goto (by decide +kernel : bkS cX9_roots 83 167 (-81) = true)) (by decide)
theorem oX9_roots_86 : pm_okR cX9_roots none 86 0 := ⟨rfl, (dk_return (by decide +kernel : bk1 cX9_roots 86 177 = true))⟩
set_option maxRecDepth 20000 in
theorem oX9_roots : pm_okM pm_P iX9_roots := ⟨rfl, (fun h => by cases h), List.forall_mem_cons.mpr ⟨oX9_roots_0, List.forall_mem_cons.mpr ⟨oX9_roots_1, List.forall_mem_cons.mpr ⟨oX9_roots_2, List.forall_mem_cons.mpr ⟨oX9_roots_3, List.forall_mem_cons.mpr ⟨oX9_roots_4, List.forall_mem_cons.mpr ⟨oX9_roots_5, List.forall_mem_cons.mpr ⟨oX9_roots_6, List.forall_mem_cons.mpr ⟨oX9_roots_7, List.forall_mem_cons.mpr ⟨oX9_roots_8, List.forall_mem_cons.mpr ⟨oX9_roots_11, List.forall_mem_cons.mpr ⟨oX9_roots_12, List.forall_mem_cons.mpr ⟨oX9_roots_13, List.forall_mem_cons.mpr ⟨oX9_roots_14, List.forall_mem_cons.mpr ⟨oX9_roots_15, List.forall_mem_cons.mpr ⟨oX9_roots_16, List.forall_mem_cons.mpr ⟨oX9_roots_17, List.forall_mem_cons.mpr ⟨oX9_roots_18, List.forall_mem_cons.mpr ⟨oX9_roots_19, List.forall_mem_cons.mpr ⟨oX9_roots_22, List.forall_mem_cons.mpr ⟨oX9_roots_23, List.forall_mem_cons.mpr ⟨oX9_roots_26, List.forall_mem_cons.mpr ⟨oX9_roots_27, List.forall_mem_cons.mpr ⟨oX9_roots_28, List.forall_mem_cons.mpr ⟨oX9_roots_30, List.forall_mem_cons.mpr ⟨oX9_roots_31, List.forall_mem_cons.mpr ⟨oX9_roots_34, List.forall_mem_cons.mpr ⟨oX9_roots_35, List.forall_mem_cons.mpr ⟨oX9_roots_36, List.forall_mem_cons.mpr ⟨oX9_roots_37, List.forall_mem_cons.mpr ⟨oX9_roots_38, List.forall_mem_cons.mpr ⟨oX9_roots_40, List.forall_mem_cons.mpr ⟨oX9_roots_41, List.forall_mem_cons.mpr ⟨oX9_roots_43, List.forall_mem_cons.mpr ⟨oX9_roots_46, List.forall_mem_cons.mpr ⟨oX9_roots_49, List.forall_mem_cons.mpr ⟨oX9_roots_50, List.forall_mem_cons.mpr ⟨oX9_roots_52, List.forall_mem_cons.mpr ⟨oX9_roots_55, List.forall_mem_cons.mpr ⟨oX9_roots_58, List.forall_mem_cons.mpr ⟨oX9_roots_61, List.forall_mem_cons.mpr ⟨oX9_roots_62, List.forall_mem_cons.mpr ⟨oX9_roots_65, List.forall_mem_cons.mpr ⟨oX9_roots_67, List.forall_mem_cons.mpr ⟨oX9_roots_69, List.forall_mem_cons.mpr ⟨oX9_roots_70, List.forall_mem_cons.mpr ⟨oX9_roots_71, List.forall_mem_cons.mpr ⟨oX9_roots_72, List.forall_mem_cons.mpr ⟨oX9_roots_74, List.forall_mem_cons.mpr ⟨oX9_roots_75, List.forall_mem_cons.mpr ⟨oX9_roots_76, List.forall_mem_cons.mpr ⟨oX9_roots_77, List.forall_mem_cons.mpr ⟨oX9_roots_80, List.forall_mem_cons.mpr ⟨oX9_roots_83, List.forall_mem_cons.mpr ⟨oX9_roots_86, fun _ h => absurd h List.not_mem_nil⟩⟩⟩⟩⟩⟩⟩⟩⟩⟩⟩⟩⟩⟩⟩⟩⟩⟩⟩⟩⟩⟩⟩⟩⟩⟩⟩⟩⟩⟩⟩⟩⟩⟩⟩⟩⟩⟩⟩⟩⟩⟩⟩⟩⟩⟩⟩⟩⟩⟩⟩⟩⟩⟩⟩
end
