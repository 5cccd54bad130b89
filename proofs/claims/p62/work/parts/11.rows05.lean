section
/-! the rows are sound (written by tab2.py) -/
set_option maxRecDepth 20000 in
theorem oX8_kids : pm_okM pm_P iX8_kids := rows_M (kd := 1) rfl (fun h => by cases h) (abX8_kids w0) poRX8_g pcRX8_g rfl (by decide +kernel)
set_option maxRecDepth 20000 in
theorem oX8_label : pm_okM pm_P iX8_label := rows_M (kd := 1) rfl (fun h => by cases h) (abX8_label w0) poRX8_g pcRX8_g rfl (by decide +kernel)
set_option maxRecDepth 20000 in
theorem oX8_labels : pm_okM pm_P iX8_labels := rows_M (kd := 1) rfl (fun h => by cases h) (abX8_labels w0) poRX8_g pcRX8_g rfl (by decide +kernel)
set_option maxRecDepth 20000 in
theorem oX8_law : pm_okM pm_P iX8_law := rows_M (kd := 1) rfl (fun h => by cases h) (abX8_law w0) poRX8_g pcRX8_g rfl (by decide +kernel)
set_option maxRecDepth 20000 in
theorem oX8_lawful : pm_okM pm_P iX8_lawful := rows_M (kd := 1) rfl (fun h => by cases h) (abX8_lawful w0) poRX8_g pcRX8_g rfl (by decide +kernel)
set_option maxRecDepth 20000 in
theorem oX8_lawfulRows : pm_okM pm_P iX8_lawfulRows := rows_M (kd := 1) rfl (fun h => by cases h) (abX8_lawfulRows w0) poRX8_g pcRX8_g rfl (by decide +kernel)
set_option maxRecDepth 20000 in
theorem oX8_laws : pm_okM pm_P iX8_laws := rows_M (kd := 1) rfl (fun h => by cases h) (abX8_laws w0) poRX8_g pcRX8_g rfl (by decide +kernel)
set_option maxRecDepth 20000 in
theorem oX8_leaves : pm_okM pm_P iX8_leaves := rows_M (kd := 1) rfl (fun h => by cases h) (abX8_leaves w0) poRX8_g pcRX8_g rfl (by decide +kernel)
set_option maxRecDepth 20000 in
theorem oX8_leftAtWorst : pm_okM pm_P iX8_leftAtWorst := rows_M (kd := 1) rfl (fun h => by cases h) (abX8_leftAtWorst w0) poRX8_g pcRX8_g rfl (by decide +kernel)
set_option maxRecDepth 20000 in
theorem oX8_likeWishes : pm_okM pm_P iX8_likeWishes := rows_M (kd := 1) rfl (fun h => by cases h) (abX8_likeWishes w0) poRX8_g pcRX8_g rfl (by decide +kernel)
set_option maxRecDepth 20000 in
theorem oX8_likes : pm_okM pm_P iX8_likes := rows_M (kd := 1) rfl (fun h => by cases h) (abX8_likes w0) poRX8_g pcRX8_g rfl (by decide +kernel)
set_option maxRecDepth 20000 in
theorem oX8_lost : pm_okM pm_P iX8_lost := rows_M (kd := 1) rfl (fun h => by cases h) (abX8_lost w0) poRX8_g pcRX8_g rfl (by decide +kernel)
set_option maxRecDepth 20000 in
theorem oX8_luck : pm_okM pm_P iX8_luck := rows_M (kd := 1) rfl (fun h => by cases h) (abX8_luck w0) poRX8_g pcRX8_g rfl (by decide +kernel)
set_option maxRecDepth 20000 in
theorem oX8_lucky : pm_okM pm_P iX8_lucky := rows_M (kd := 1) rfl (fun h => by cases h) (abX8_lucky w0) poRX8_g pcRX8_g rfl (by decide +kernel)
set_option maxRecDepth 20000 in
theorem oX8_may : pm_okM pm_P iX8_may := rows_M (kd := 1) rfl (fun h => by cases h) (abX8_may w0) poRX8_g pcRX8_g rfl (by decide +kernel)
set_option maxRecDepth 20000 in
theorem oX8_mean : pm_okM pm_P iX8_mean := rows_M (kd := 3) rfl (fun h => by cases h) (abX8_mean w0) poRX8_g pcRX8_g rfl (by decide +kernel)
set_option maxRecDepth 20000 in
theorem oX8_mend : pm_okM pm_P iX8_mend := rows_M (kd := 1) rfl (fun h => by cases h) (abX8_mend w0) poRX8_g pcRX8_g rfl (by decide +kernel)
set_option maxRecDepth 20000 in
theorem oX8_merged : pm_okM pm_P iX8_merged := rows_M (kd := 1) rfl (fun h => by cases h) (abX8_merged w0) poRX8_g pcRX8_g rfl (by decide +kernel)
set_option maxRecDepth 20000 in
theorem oX8_moved : pm_okM pm_P iX8_moved := rows_M (kd := 1) rfl (fun h => by cases h) (abX8_moved w0) poRX8_g pcRX8_g rfl (by decide +kernel)
set_option maxRecDepth 20000 in
theorem oX8_next : pm_okM pm_P iX8_next := rows_M (kd := 1) rfl (fun h => by cases h) (abX8_next w0) poRX8_g pcRX8_g rfl (by decide +kernel)
set_option maxRecDepth 20000 in
theorem oX8_parent : pm_okM pm_P iX8_parent := rows_M (kd := 1) rfl (fun h => by cases h) (abX8_parent w0) poRX8_g pcRX8_g rfl (by decide +kernel)
set_option maxRecDepth 20000 in
theorem oX8_park : pm_okM pm_P iX8_park := rows_M (kd := 0) rfl (fun h => by cases h) (abX8_park w0) poRX8_g pcRX8_g rfl (by decide +kernel)
end
section
/-! the rows are sound (written by tab2.py) -/
set_option maxRecDepth 20000 in
theorem oX8_parkAll : pm_okM pm_P iX8_parkAll := rows_M (kd := 0) rfl (fun h => by cases h) (abX8_parkAll w0) poRX8_g pcRX8_g rfl (by decide +kernel)
set_option maxRecDepth 20000 in
theorem oX8_parkOnRing : pm_okM pm_P iX8_parkOnRing := rows_M (kd := 0) rfl (fun h => by cases h) (abX8_parkOnRing w0) poRX8_g pcRX8_g rfl (by decide +kernel)
set_option maxRecDepth 20000 in
theorem oX8_parkSet : pm_okM pm_P iX8_parkSet := rows_M (kd := 0) rfl (fun h => by cases h) (abX8_parkSet w0) poRX8_g pcRX8_g rfl (by decide +kernel)
set_option maxRecDepth 20000 in
theorem oX8_parkWith : pm_okM pm_P iX8_parkWith := rows_M (kd := 0) rfl (fun h => by cases h) (abX8_parkWith w0) poRX8_g pcRX8_g rfl (by decide +kernel)
theorem oX8_paste_0 : pm_okF cX8_paste RX8 8 false 0 (s_il 1 1) := k_iload_n (dk_iload_n_1 (by decide +kernel : bk1 cX8_paste 0 27 = true)) rfl
theorem oX8_paste_1 : ∃ I : pm_M, pm_at pm_P 127 = some I ∧ I.2.2.2.2.2.1 = 0 ∧ I.2.2.2.2.2.2.1 = 0 ∧ pm_okC cX8_paste RX8 8 false 1 I.1 I.2.1 I.2.2.1 I.2.2.2.1 1 (none) 0 0 := ⟨iX8_isSlot, aiX8_isSlot, rfl, rfl, k_callS (n := 1) (dk_invokestatic (by decide +kernel : bk3 cX8_paste 1 184 378 = true)) w_4_26 w_4_24 w_4_25 w_1_1 (by decide +kernel) (by decide)⟩
theorem oX8_paste_4 : pm_okF cX8_paste RX8 8 false 4 (s_if (fun x => decide (x = 0)) 14 7) := k_if_eq (dk_ifCond_eq (by decide +kernel : bkS cX8_paste 4 153 10 = true)) (by decide)
theorem oX8_paste_7 : pm_okF cX8_paste RX8 8 false 7 (s_il 3 8) := k_iload_n (dk_iload_n_3 (by decide +kernel : bk1 cX8_paste 7 29 = true)) rfl
theorem oX8_paste_8 : ∃ I : pm_M, pm_at pm_P 127 = some I ∧ I.2.2.2.2.2.1 = 0 ∧ I.2.2.2.2.2.2.1 = 0 ∧ pm_okC cX8_paste RX8 8 false 8 I.1 I.2.1 I.2.2.1 I.2.2.2.1 1 (none) 0 0 := ⟨iX8_isSlot, aiX8_isSlot, rfl, rfl, k_callS (n := 1) (dk_invokestatic (by decide +kernel : bk3 cX8_paste 8 184 378 = true)) w_4_26 w_4_24 w_4_25 w_1_1 (by decide +kernel) (by decide)⟩
theorem oX8_paste_11 : pm_okF cX8_paste RX8 8 false 11 (s_if (fun x => decide (¬ x = 0)) 17 14) := k_if_ne (dk_ifCond_ne (by decide +kernel : bkS cX8_paste 11 154 6 = true)) (by decide)
theorem oX8_paste_14 : pm_okF cX8_paste RX8 8 false 14 (s_const (.int (-2)) 16) := k_bipush (dk_bipush (by decide +kernel : bkB cX8_paste 14 16 (-2) = true)) (by decide)
theorem oX8_paste_16 : pm_okR cX8_paste (some .int) 16 1 := ⟨rfl, (dk_ireturn (by decide +kernel : bk1 cX8_paste 16 172 = true))⟩
theorem oX8_paste_17 : pm_okF cX8_paste RX8 8 false 17 (s_al 0 18) := k_aload_n (dk_aload_n_0 (by decide +kernel : bk1 cX8_paste 17 42 = true)) rfl
theorem oX8_paste_18 : pm_okF cX8_paste RX8 8 false 18 (s_getf 8 5 21) := k_getf (C := RX8) (T := TX8) (N := 12) rfl inX8 (by decide) w_2_31 (dk_getfield (by decide +kernel : bk3 cX8_paste 18 180 42 = true))
theorem oX8_paste_21 : pm_okF cX8_paste RX8 8 false 21 (s_il 1 22) := k_iload_n (dk_iload_n_1 (by decide +kernel : bk1 cX8_paste 21 27 = true)) rfl
theorem oX8_paste_22 : pm_okF cX8_paste RX8 8 false 22 (s_aald 5 23) := k_aald (C := RX4) (fun _ => rfl) (dk_aaload (by decide +kernel : bk1 cX8_paste 22 50 = true))
theorem oX8_paste_23 : pm_okF cX8_paste RX8 8 false 23 (s_as 6 25) := k_astore (dk_astore (by decide +kernel : bk2 cX8_paste 23 58 6 = true)) (by decide)
theorem oX8_paste_25 : pm_okF cX8_paste RX8 8 false 25 (s_al 0 26) := k_aload_n (dk_aload_n_0 (by decide +kernel : bk1 cX8_paste 25 42 = true)) rfl
theorem oX8_paste_26 : pm_okF cX8_paste RX8 8 false 26 (s_getf 8 5 29) := k_getf (C := RX8) (T := TX8) (N := 12) rfl inX8 (by decide) w_2_31 (dk_getfield (by decide +kernel : bk3 cX8_paste 26 180 42 = true))
theorem oX8_paste_29 : pm_okF cX8_paste RX8 8 false 29 (s_il 3 30) := k_iload_n (dk_iload_n_3 (by decide +kernel : bk1 cX8_paste 29 29 = true)) rfl
theorem oX8_paste_30 : pm_okF cX8_paste RX8 8 false 30 (s_aald 5 31) := k_aald (C := RX4) (fun _ => rfl) (dk_aaload (by decide +kernel : bk1 cX8_paste 30 50 = true))
theorem oX8_paste_31 : pm_okF cX8_paste RX8 8 false 31 (s_as 7 33) := k_astore (dk_astore (by decide +kernel : bk2 cX8_paste 31 58 7 = true)) (by decide)
theorem oX8_paste_33 : pm_okF cX8_paste RX8 8 false 33 (s_al 6 35) := k_aload (dk_aload (by decide +kernel : bk2 cX8_paste 33 25 6 = true))
theorem oX8_paste_35 : pm_okF cX8_paste RX8 8 false 35 (s_getf 4 1 38) := k_getf (C := RX4) (T := TX4) (N := 4) rfl inX4 (by decide) w_1_180 (dk_getfield (by decide +kernel : bk3 cX8_paste 35 180 384 = true))
theorem oX8_paste_38 : pm_okF cX8_paste RX8 8 false 38 (s_if (fun x => decide (x = 0)) 49 41) := k_if_eq (dk_ifCond_eq (by decide +kernel : bkS cX8_paste 38 153 11 = true)) (by decide)
theorem oX8_paste_41 : pm_okF cX8_paste RX8 8 false 41 (s_al 7 43) := k_aload (dk_aload (by decide +kernel : bk2 cX8_paste 41 25 7 = true))
theorem oX8_paste_43 : pm_okF cX8_paste RX8 8 false 43 (s_getf 4 1 46) := k_getf (C := RX4) (T := TX4) (N := 4) rfl inX4 (by decide) w_1_180 (dk_getfield (by decide +kernel : bk3 cX8_paste 43 180 384 = true))
theorem oX8_paste_46 : pm_okF cX8_paste RX8 8 false 46 (s_if (fun x => decide (¬ x = 0)) 52 49) := k_if_ne (dk_ifCond_ne (by decide +kernel : bkS cX8_paste 46 154 6 = true)) (by decide)
theorem oX8_paste_49 : pm_okF cX8_paste RX8 8 false 49 (s_const (.int (-6)) 51) := k_bipush (dk_bipush (by decide +kernel : bkB cX8_paste 49 16 (-6) = true)) (by decide)
theorem oX8_paste_51 : pm_okR cX8_paste (some .int) 51 1 := ⟨rfl, (dk_ireturn (by decide +kernel : bk1 cX8_paste 51 172 = true))⟩
theorem oX8_paste_52 : pm_okF cX8_paste RX8 8 false 52 (s_al 6 54) := k_aload (dk_aload (by decide +kernel : bk2 cX8_paste 52 25 6 = true))
theorem oX8_paste_54 : pm_okF cX8_paste RX8 8 false 54 (s_getf 4 2 57) := k_getf (C := RX4) (T := TX4) (N := 4) rfl inX4 (by decide) w_1_182 (dk_getfield (by decide +kernel : bk3 cX8_paste 54 180 393 = true))
theorem oX8_paste_57 : pm_okF cX8_paste RX8 8 false 57 (s_al 7 59) := k_aload (dk_aload (by decide +kernel : bk2 cX8_paste 57 25 7 = true))
theorem oX8_paste_59 : pm_okF cX8_paste RX8 8 false 59 (s_getf 4 2 62) := k_getf (C := RX4) (T := TX4) (N := 4) rfl inX4 (by decide) w_1_182 (dk_getfield (by decide +kernel : bk3 cX8_paste 59 180 393 = true))
theorem oX8_paste_62 : pm_okF cX8_paste RX8 8 false 62 (s_icmp (fun x y => decide (x = y)) 68 65) := k_icmp_eq (dk_if_icmp_eq (by decide +kernel : bkS cX8_paste 62 159 6 = true)) (by decide)
theorem oX8_paste_65 : pm_okF cX8_paste RX8 8 false 65 (s_const (.int (-8)) 67) := k_bipush (dk_bipush (by decide +kernel : bkB cX8_paste 65 16 (-8) = true)) (by decide)
theorem oX8_paste_67 : pm_okR cX8_paste (some .int) 67 1 := ⟨rfl, (dk_ireturn (by decide +kernel : bk1 cX8_paste 67 172 = true))⟩
theorem oX8_paste_68 : pm_okF cX8_paste RX8 8 false 68 (s_al 6 70) := k_aload (dk_aload (by decide +kernel : bk2 cX8_paste 68 25 6 = true))
theorem oX8_paste_70 : pm_okF cX8_paste RX8 8 false 70 (s_il 2 71) := k_iload_n (dk_iload_n_2 (by decide +kernel : bk1 cX8_paste 70 28 = true)) rfl
theorem oX8_paste_71 : pm_okF cX8_paste RX8 8 false 71 (s_il 5 73) := k_iload (dk_iload (by decide +kernel : bk2 cX8_paste 71 21 5 = true))
theorem oX8_paste_73 : ∃ I : pm_M, pm_at pm_P 45 = some I ∧ I.2.2.2.2.2.1 = 0 ∧ I.2.2.2.2.2.2.1 = 0 ∧ pm_okC cX8_paste RX8 8 false 73 I.1 I.2.1 I.2.2.1 I.2.2.2.1 3 (some 4) 0 0 := ⟨iX4_holds, aiX4_holds, rfl, rfl, k_callV (n := 2) (T := TX4) (N := 4) (dk_invokevirtual (by decide +kernel : bk3 cX8_paste 73 182 400 = true)) rfl w_5_156 w_5_153 w_5_154 w_5_155 w_1_6 (by decide +kernel) (by decide) (by decide)⟩
theorem oX8_paste_76 : pm_okF cX8_paste RX8 8 false 76 (s_if (fun x => decide (x = 0)) 91 79) := k_if_eq (dk_ifCond_eq (by decide +kernel : bkS cX8_paste 76 153 15 = true)) (by decide)
theorem oX8_paste_79 : pm_okF cX8_paste RX8 8 false 79 (s_al 7 81) := k_aload (dk_aload (by decide +kernel : bk2 cX8_paste 79 25 7 = true))
theorem oX8_paste_81 : pm_okF cX8_paste RX8 8 false 81 (s_il 4 83) := k_iload (dk_iload (by decide +kernel : bk2 cX8_paste 81 21 4 = true))
theorem oX8_paste_83 : pm_okF cX8_paste RX8 8 false 83 (s_il 5 85) := k_iload (dk_iload (by decide +kernel : bk2 cX8_paste 83 21 5 = true))
theorem oX8_paste_85 : ∃ I : pm_M, pm_at pm_P 45 = some I ∧ I.2.2.2.2.2.1 = 0 ∧ I.2.2.2.2.2.2.1 = 0 ∧ pm_okC cX8_paste RX8 8 false 85 I.1 I.2.1 I.2.2.1 I.2.2.2.1 3 (some 4) 0 0 := ⟨iX4_holds, aiX4_holds, rfl, rfl, k_callV (n := 2) (T := TX4) (N := 4) (dk_invokevirtual (by decide +kernel : bk3 cX8_paste 85 182 400 = true)) rfl w_5_156 w_5_153 w_5_154 w_5_155 w_1_6 (by decide +kernel) (by decide) (by decide)⟩
theorem oX8_paste_88 : pm_okF cX8_paste RX8 8 false 88 (s_if (fun x => decide (¬ x = 0)) 94 91) := k_if_ne (dk_ifCond_ne (by decide +kernel : bkS cX8_paste 88 154 6 = true)) (by decide)
theorem oX8_paste_91 : pm_okF cX8_paste RX8 8 false 91 (s_const (.int (-7)) 93) := k_bipush (dk_bipush (by decide +kernel : bkB cX8_paste 91 16 (-7) = true)) (by decide)
theorem oX8_paste_93 : pm_okR cX8_paste (some .int) 93 1 := ⟨rfl, (dk_ireturn (by decide +kernel : bk1 cX8_paste 93 172 = true))⟩
theorem oX8_paste_94 : pm_okF cX8_paste RX8 8 false 94 (s_al 6 96) := k_aload (dk_aload (by decide +kernel : bk2 cX8_paste 94 25 6 = true))
theorem oX8_paste_96 : pm_okF cX8_paste RX8 8 false 96 (s_getf 4 0 99) := k_getf (C := RX4) (T := TX4) (N := 4) rfl inX4 (by decide) w_1_178 (dk_getfield (by decide +kernel : bk3 cX8_paste 96 180 389 = true))
theorem oX8_paste_99 : pm_okF cX8_paste RX8 8 false 99 (s_il 2 100) := k_iload_n (dk_iload_n_2 (by decide +kernel : bk1 cX8_paste 99 28 = true)) rfl
theorem oX8_paste_100 : pm_okF cX8_paste RX8 8 false 100 (s_al 7 102) := k_aload (dk_aload (by decide +kernel : bk2 cX8_paste 100 25 7 = true))
theorem oX8_paste_102 : pm_okF cX8_paste RX8 8 false 102 (s_getf 4 0 105) := k_getf (C := RX4) (T := TX4) (N := 4) rfl inX4 (by decide) w_1_178 (dk_getfield (by decide +kernel : bk3 cX8_paste 102 180 389 = true))
theorem oX8_paste_105 : pm_okF cX8_paste RX8 8 false 105 (s_il 4 107) := k_iload (dk_iload (by decide +kernel : bk2 cX8_paste 105 21 4 = true))
theorem oX8_paste_107 : pm_okF cX8_paste RX8 8 false 107 (s_il 5 109) := k_iload (dk_iload (by decide +kernel : bk2 cX8_paste 107 21 5 = true))
theorem oX8_paste_109 : pm_okF cX8_paste RX8 8 false 109 (s_copy 112) := k_copy w_5_157 w_5_159 w_5_158 w_1_17 (dk_invokestatic (by decide +kernel : bk3 cX8_paste 109 184 403 = true))
theorem oX8_paste_112 : pm_okF cX8_paste RX8 8 false 112 (s_const (.int 0) 113) := k_iconst (dk_iconst_0 (by decide +kernel : bk1 cX8_paste 112 3 = true)) (by decide)
theorem oX8_paste_113 : pm_okR cX8_paste (some .int) 113 1 := ⟨rfl, (dk_ireturn (by decide +kernel : bk1 cX8_paste 113 172 = true))⟩
set_option maxRecDepth 20000 in
theorem oX8_paste : pm_okM pm_P iX8_paste := ⟨rfl, (fun h => by cases h), List.forall_mem_cons.mpr ⟨oX8_paste_0, List.forall_mem_cons.mpr ⟨oX8_paste_1, List.forall_mem_cons.mpr ⟨oX8_paste_4, List.forall_mem_cons.mpr ⟨oX8_paste_7, List.forall_mem_cons.mpr ⟨oX8_paste_8, List.forall_mem_cons.mpr ⟨oX8_paste_11, List.forall_mem_cons.mpr ⟨oX8_paste_14, List.forall_mem_cons.mpr ⟨oX8_paste_16, List.forall_mem_cons.mpr ⟨oX8_paste_17, List.forall_mem_cons.mpr ⟨oX8_paste_18, List.forall_mem_cons.mpr ⟨oX8_paste_21, List.forall_mem_cons.mpr ⟨oX8_paste_22, List.forall_mem_cons.mpr ⟨oX8_paste_23, List.forall_mem_cons.mpr ⟨oX8_paste_25, List.forall_mem_cons.mpr ⟨oX8_paste_26, List.forall_mem_cons.mpr ⟨oX8_paste_29, List.forall_mem_cons.mpr ⟨oX8_paste_30, List.forall_mem_cons.mpr ⟨oX8_paste_31, List.forall_mem_cons.mpr ⟨oX8_paste_33, List.forall_mem_cons.mpr ⟨oX8_paste_35, List.forall_mem_cons.mpr ⟨oX8_paste_38, List.forall_mem_cons.mpr ⟨oX8_paste_41, List.forall_mem_cons.mpr ⟨oX8_paste_43, List.forall_mem_cons.mpr ⟨oX8_paste_46, List.forall_mem_cons.mpr ⟨oX8_paste_49, List.forall_mem_cons.mpr ⟨oX8_paste_51, List.forall_mem_cons.mpr ⟨oX8_paste_52, List.forall_mem_cons.mpr ⟨oX8_paste_54, List.forall_mem_cons.mpr ⟨oX8_paste_57, List.forall_mem_cons.mpr ⟨oX8_paste_59, List.forall_mem_cons.mpr ⟨oX8_paste_62, List.forall_mem_cons.mpr ⟨oX8_paste_65, List.forall_mem_cons.mpr ⟨oX8_paste_67, List.forall_mem_cons.mpr ⟨oX8_paste_68, List.forall_mem_cons.mpr ⟨oX8_paste_70, List.forall_mem_cons.mpr ⟨oX8_paste_71, List.forall_mem_cons.mpr ⟨oX8_paste_73, List.forall_mem_cons.mpr ⟨oX8_paste_76, List.forall_mem_cons.mpr ⟨oX8_paste_79, List.forall_mem_cons.mpr ⟨oX8_paste_81, List.forall_mem_cons.mpr ⟨oX8_paste_83, List.forall_mem_cons.mpr ⟨oX8_paste_85, List.forall_mem_cons.mpr ⟨oX8_paste_88, List.forall_mem_cons.mpr ⟨oX8_paste_91, List.forall_mem_cons.mpr ⟨oX8_paste_93, List.forall_mem_cons.mpr ⟨oX8_paste_94, List.forall_mem_cons.mpr ⟨oX8_paste_96, List.forall_mem_cons.mpr ⟨oX8_paste_99, List.forall_mem_cons.mpr ⟨oX8_paste_100, List.forall_mem_cons.mpr ⟨oX8_paste_102, List.forall_mem_cons.mpr ⟨oX8_paste_105, List.forall_mem_cons.mpr ⟨oX8_paste_107, List.forall_mem_cons.mpr ⟨oX8_paste_109, List.forall_mem_cons.mpr ⟨oX8_paste_112, List.forall_mem_cons.mpr ⟨oX8_paste_113, fun _ h => absurd h List.not_mem_nil⟩⟩⟩⟩⟩⟩⟩⟩⟩⟩⟩⟩⟩⟩⟩⟩⟩⟩⟩⟩⟩⟩⟩⟩⟩⟩⟩⟩⟩⟩⟩⟩⟩⟩⟩⟩⟩⟩⟩⟩⟩⟩⟩⟩⟩⟩⟩⟩⟩⟩⟩⟩⟩⟩⟩⟩
set_option maxRecDepth 20000 in
theorem oX8_place : pm_okM pm_P iX8_place := rows_M (kd := 1) rfl (fun h => by cases h) (abX8_place w0) poRX8_g pcRX8_g rfl (by decide +kernel)
set_option maxRecDepth 20000 in
theorem oX8_placeBit : pm_okM pm_P iX8_placeBit := rows_M (kd := 1) rfl (fun h => by cases h) (abX8_placeBit w0) poRX8_g pcRX8_g rfl (by decide +kernel)
set_option maxRecDepth 20000 in
theorem oX8_power : pm_okM pm_P iX8_power := rows_M (kd := 3) rfl (fun h => by cases h) (abX8_power w0) poRX8_g pcRX8_g rfl (by decide +kernel)
set_option maxRecDepth 20000 in
theorem oX8_prime : pm_okM pm_P iX8_prime := rows_M (kd := 1) rfl (fun h => by cases h) (abX8_prime w0) poRX8_g pcRX8_g rfl (by decide +kernel)
set_option maxRecDepth 20000 in
theorem oX8_queue : pm_okM pm_P iX8_queue := rows_M (kd := 1) rfl (fun h => by cases h) (abX8_queue w0) poRX8_g pcRX8_g rfl (by decide +kernel)
set_option maxRecDepth 20000 in
theorem oX8_rate : pm_okM pm_P iX8_rate := rows_M (kd := 1) rfl (fun h => by cases h) (abX8_rate w0) poRX8_g pcRX8_g rfl (by decide +kernel)
set_option maxRecDepth 20000 in
theorem oX8_readCode : pm_okM pm_P iX8_readCode := rows_M (kd := 1) rfl (fun h => by cases h) (abX8_readCode w0) poRX8_g pcRX8_g rfl (by decide +kernel)
set_option maxRecDepth 20000 in
theorem oX8_regain : pm_okM pm_P iX8_regain := rows_M (kd := 1) rfl (fun h => by cases h) (abX8_regain w0) poRX8_g pcRX8_g rfl (by decide +kernel)
set_option maxRecDepth 20000 in
theorem oX8_region : pm_okM pm_P iX8_region := rows_M (kd := 1) rfl (fun h => by cases h) (abX8_region w0) poRX8_g pcRX8_g rfl (by decide +kernel)
set_option maxRecDepth 20000 in
theorem oX8_remain : pm_okM pm_P iX8_remain := rows_M (kd := 1) rfl (fun h => by cases h) (abX8_remain w0) poRX8_g pcRX8_g rfl (by decide +kernel)
set_option maxRecDepth 20000 in
theorem oX8_rests : pm_okM pm_P iX8_rests := rows_M (kd := 1) rfl (fun h => by cases h) (abX8_rests w0) poRX8_g pcRX8_g rfl (by decide +kernel)
set_option maxRecDepth 20000 in
theorem oX8_ring : pm_okM pm_P iX8_ring := rows_M (kd := 1) rfl (fun h => by cases h) (abX8_ring w0) poRX8_g pcRX8_g rfl (by decide +kernel)
set_option maxRecDepth 20000 in
theorem oX8_row : pm_okM pm_P iX8_row := rows_M (kd := 1) rfl (fun h => by cases h) (abX8_row w0) poRX8_g pcRX8_g rfl (by decide +kernel)
set_option maxRecDepth 20000 in
theorem oX8_rowRefusal : pm_okM pm_P iX8_rowRefusal := rows_M (kd := 1) rfl (fun h => by cases h) (abX8_rowRefusal w0) poRX8_g pcRX8_g rfl (by decide +kernel)
set_option maxRecDepth 20000 in
theorem oX8_rows : pm_okM pm_P iX8_rows := rows_M (kd := 1) rfl (fun h => by cases h) (abX8_rows w0) poRX8_g pcRX8_g rfl (by decide +kernel)
set_option maxRecDepth 20000 in
theorem oX8_runs : pm_okM pm_P iX8_runs := rows_M (kd := 1) rfl (fun h => by cases h) (abX8_runs w0) poRX8_g pcRX8_g rfl (by decide +kernel)
set_option maxRecDepth 20000 in
theorem oX8_searchTree : pm_okM pm_P iX8_searchTree := rows_M (kd := 1) rfl (fun h => by cases h) (abX8_searchTree w0) poRX8_g pcRX8_g rfl (by decide +kernel)
set_option maxRecDepth 20000 in
theorem oX8_setWeight : pm_okM pm_P iX8_setWeight := rows_M (kd := 3) rfl (fun h => by cases h) (abX8_setWeight w0) poRX8_g pcRX8_g rfl (by decide +kernel)
theorem oX8_share_0 : pm_okF cX8_share RX8 9 false 0 (s_al 0 1) := k_aload_n (dk_aload_n_0 (by decide +kernel : bk1 cX8_share 0 42 = true)) rfl
theorem oX8_share_1 : pm_okF cX8_share RX8 9 false 1 (s_il 1 2) := k_iload_n (dk_iload_n_1 (by decide +kernel : bk1 cX8_share 1 27 = true)) rfl
theorem oX8_share_2 : ∃ I : pm_M, pm_at pm_P 114 = some I ∧ I.2.2.2.2.2.1 = 0 ∧ I.2.2.2.2.2.2.1 = 0 ∧ pm_okC cX8_share RX8 9 false 2 I.1 I.2.1 I.2.2.1 I.2.2.2.1 2 (some 8) 0 0 := ⟨iX8_hasCar, aiX8_hasCar, rfl, rfl, k_callV (n := 1) (T := TX8) (N := 12) (dk_invokevirtual (by decide +kernel : bk3 cX8_share 2 182 109 = true)) rfl w_2_239 w_2_236 w_2_238 w_0_13 w_1_1 (by decide +kernel) (by decide) (by decide)⟩
theorem oX8_share_5 : pm_okF cX8_share RX8 9 false 5 (s_if (fun x => decide (x = 0)) 15 8) := k_if_eq (dk_ifCond_eq (by decide +kernel : bkS cX8_share 5 153 10 = true)) (by decide)
theorem oX8_share_8 : pm_okF cX8_share RX8 9 false 8 (s_il 2 9) := k_iload_n (dk_iload_n_2 (by decide +kernel : bk1 cX8_share 8 28 = true)) rfl
theorem oX8_share_9 : ∃ I : pm_M, pm_at pm_P 129 = some I ∧ I.2.2.2.2.2.1 = 0 ∧ I.2.2.2.2.2.2.1 = 0 ∧ pm_okC cX8_share RX8 9 false 9 I.1 I.2.1 I.2.2.1 I.2.2.2.1 1 (none) 0 0 := ⟨iX8_isTerm, aiX8_isTerm, rfl, rfl, k_callS (n := 1) (dk_invokestatic (by decide +kernel : bk3 cX8_share 9 184 113 = true)) w_3_2 w_3_0 w_3_1 w_1_1 (by decide +kernel) (by decide)⟩
theorem oX8_share_12 : pm_okF cX8_share RX8 9 false 12 (s_if (fun x => decide (¬ x = 0)) 19 15) := k_if_ne (dk_ifCond_ne (by decide +kernel : bkS cX8_share 12 154 7 = true)) (by decide)
theorem oX8_share_15 : pm_okF cX8_share RX8 9 false 15 (s_const (.int (-1000000)) 18) := k_ldcw (dk_ldc_w (by decide +kernel : bk3 cX8_share 15 19 331 = true)) w_5_19
theorem oX8_share_18 : pm_okR cX8_share (some .int) 18 1 := ⟨rfl, (dk_ireturn (by decide +kernel : bk1 cX8_share 18 172 = true))⟩
theorem oX8_share_19 : pm_okF cX8_share RX8 9 false 19 (s_al 0 20) := k_aload_n (dk_aload_n_0 (by decide +kernel : bk1 cX8_share 19 42 = true)) rfl
theorem oX8_share_20 : pm_okF cX8_share RX8 9 false 20 (s_getf 8 9 23) := k_getf (C := RX8) (T := TX8) (N := 12) rfl inX8 (by decide) w_2_35 (dk_getfield (by decide +kernel : bk3 cX8_share 20 180 71 = true))
theorem oX8_share_23 : pm_okF cX8_share RX8 9 false 23 (s_al 0 24) := k_aload_n (dk_aload_n_0 (by decide +kernel : bk1 cX8_share 23 42 = true)) rfl
theorem oX8_share_24 : pm_okF cX8_share RX8 9 false 24 (s_getf 8 2 27) := k_getf (C := RX8) (T := TX8) (N := 12) rfl inX8 (by decide) w_2_28 (dk_getfield (by decide +kernel : bk3 cX8_share 24 180 28 = true))
theorem oX8_share_27 : pm_okF cX8_share RX8 9 false 27 (s_getf 5 8 30) := k_getf (C := RX5) (T := TX5) (N := 15) rfl inX5 (by decide) w_1_76 (dk_getfield (by decide +kernel : bk3 cX8_share 27 180 116 = true))
theorem oX8_share_30 : pm_okF cX8_share RX8 9 false 30 (s_al 0 31) := k_aload_n (dk_aload_n_0 (by decide +kernel : bk1 cX8_share 30 42 = true)) rfl
theorem oX8_share_31 : pm_okF cX8_share RX8 9 false 31 (s_getf 8 2 34) := k_getf (C := RX8) (T := TX8) (N := 12) rfl inX8 (by decide) w_2_28 (dk_getfield (by decide +kernel : bk3 cX8_share 31 180 28 = true))
theorem oX8_share_34 : pm_okF cX8_share RX8 9 false 34 (s_getf 5 4 37) := k_getf (C := RX5) (T := TX5) (N := 15) rfl inX5 (by decide) w_1_69 (dk_getfield (by decide +kernel : bk3 cX8_share 34 180 148 = true))
theorem oX8_share_37 : pm_okF cX8_share RX8 9 false 37 (s_al 0 38) := k_aload_n (dk_aload_n_0 (by decide +kernel : bk1 cX8_share 37 42 = true)) rfl
theorem oX8_share_38 : pm_okF cX8_share RX8 9 false 38 (s_getf 8 2 41) := k_getf (C := RX8) (T := TX8) (N := 12) rfl inX8 (by decide) w_2_28 (dk_getfield (by decide +kernel : bk3 cX8_share 38 180 28 = true))
theorem oX8_share_41 : pm_okF cX8_share RX8 9 false 41 (s_getf 5 0 44) := k_getf (C := RX5) (T := TX5) (N := 15) rfl inX5 (by decide) w_1_57 (dk_getfield (by decide +kernel : bk3 cX8_share 41 180 139 = true))
theorem oX8_share_44 : pm_okF cX8_share RX8 9 false 44 (s_al 0 45) := k_aload_n (dk_aload_n_0 (by decide +kernel : bk1 cX8_share 44 42 = true)) rfl
theorem oX8_share_45 : pm_okF cX8_share RX8 9 false 45 (s_getf 8 2 48) := k_getf (C := RX8) (T := TX8) (N := 12) rfl inX8 (by decide) w_2_28 (dk_getfield (by decide +kernel : bk3 cX8_share 45 180 28 = true))
theorem oX8_share_48 : pm_okF cX8_share RX8 9 false 48 (s_getf 5 1 51) := k_getf (C := RX5) (T := TX5) (N := 15) rfl inX5 (by decide) w_1_60 (dk_getfield (by decide +kernel : bk3 cX8_share 48 180 308 = true))
theorem oX8_share_51 : ∃ I : pm_M, pm_at pm_P 42 = some I ∧ I.2.2.2.2.2.1 = 0 ∧ I.2.2.2.2.2.2.1 = 0 ∧ pm_okC cX8_share RX8 9 false 51 I.1 I.2.1 I.2.2.1 I.2.2.2.1 5 (some 3) 0 0 := ⟨iX3_fill, aiX3_fill, rfl, rfl, k_callV (n := 4) (T := TX3) (N := 2) (dk_invokevirtual (by decide +kernel : bk3 cX8_share 51 182 332 = true)) rfl w_5_23 w_5_20 w_5_21 w_5_22 w_1_9 (by decide +kernel) (by decide) (by decide)⟩
theorem oX8_share_54 : pm_okF cX8_share RX8 9 false 54 (s_const (.long 0) 55) := k_lconst (dk_lconst_0 (by decide +kernel : bk1 cX8_share 54 9 = true)) (by decide)
theorem oX8_share_55 : pm_okF cX8_share RX8 9 false 55 (s_ls 3 56) := k_lstore_n (dk_lstore_n_3 (by decide +kernel : bk1 cX8_share 55 66 = true)) rfl (by decide)
theorem oX8_share_56 : pm_okF cX8_share RX8 9 false 56 (s_const (.int 0) 57) := k_iconst (dk_iconst_0 (by decide +kernel : bk1 cX8_share 56 3 = true)) (by decide)
theorem oX8_share_57 : pm_okF cX8_share RX8 9 false 57 (s_is 5 59) := k_istore (dk_istore (by decide +kernel : bk2 cX8_share 57 54 5 = true)) (by decide)
theorem oX8_share_59 : pm_okF cX8_share RX8 9 false 59 (s_il 5 61) := k_iload (dk_iload (by decide +kernel : bk2 cX8_share 59 21 5 = true))
theorem oX8_share_61 : pm_okF cX8_share RX8 9 false 61 (s_al 0 62) := k_aload_n (dk_aload_n_0 (by decide +kernel : bk1 cX8_share 61 42 = true)) rfl
theorem oX8_share_62 : ∃ I : pm_M, pm_at pm_P 103 = some I ∧ I.2.2.2.2.2.1 = 0 ∧ I.2.2.2.2.2.2.1 = 0 ∧ pm_okC cX8_share RX8 9 false 62 I.1 I.2.1 I.2.2.1 I.2.2.2.1 1 (some 8) 0 0 := ⟨iX8_everyCar, aiX8_everyCar, rfl, rfl, k_callV (n := 0) (T := TX8) (N := 12) (dk_invokevirtual (by decide +kernel : bk3 cX8_share 62 182 311 = true)) rfl w_3_14 w_3_11 w_3_13 w_0_15 w_1_1 (by decide +kernel) (by decide) (by decide)⟩
theorem oX8_share_65 : pm_okF cX8_share RX8 9 false 65 (s_icmp (fun x y => decide (y < x)) 149 68) := k_icmp_gt (dk_if_icmp_gt (by decide +kernel : bkS cX8_share 65 163 84 = true)) (by decide)
theorem oX8_share_68 : pm_okF cX8_share RX8 9 false 68 (s_il 5 70) := k_iload (dk_iload (by decide +kernel : bk2 cX8_share 68 21 5 = true))
theorem oX8_share_70 : pm_okF cX8_share RX8 9 false 70 (s_il 1 71) := k_iload_n (dk_iload_n_1 (by decide +kernel : bk1 cX8_share 70 27 = true)) rfl
theorem oX8_share_71 : pm_okF cX8_share RX8 9 false 71 (s_bin (fun x y => x >>> (y &&& 31)) 72) := k_ishr (dk_ishr (by decide +kernel : bk1 cX8_share 71 122 = true))
theorem oX8_share_72 : pm_okF cX8_share RX8 9 false 72 (s_const (.int 1) 73) := k_iconst (dk_iconst_1 (by decide +kernel : bk1 cX8_share 72 4 = true)) (by decide)
theorem oX8_share_73 : pm_okF cX8_share RX8 9 false 73 (s_bin (fun x y => x &&& y) 74) := k_iand (dk_iand (by decide +kernel : bk1 cX8_share 73 126 = true))
theorem oX8_share_74 : pm_okF cX8_share RX8 9 false 74 (s_if (fun x => decide (¬ x = 0)) 143 77) := k_if_ne (dk_ifCond_ne (by decide +kernel : bkS cX8_share 74 154 69 = true)) (by decide)
theorem oX8_share_77 : pm_okF cX8_share RX8 9 false 77 (s_il 5 79) := k_iload (dk_iload (by decide +kernel : bk2 cX8_share 77 21 5 = true))
theorem oX8_share_79 : ∃ I : pm_M, pm_at pm_P 7 = some I ∧ I.2.2.2.2.2.1 = 0 ∧ I.2.2.2.2.2.2.1 = 0 ∧ pm_okC cX8_share RX8 9 false 79 I.1 I.2.1 I.2.2.1 I.2.2.2.1 1 (none) 0 0 := ⟨iJ6_bitCount_0f7a4, aiJ6_bitCount_0f7a4, rfl, rfl, k_callS (n := 1) (dk_invokestatic (by decide +kernel : bk3 cX8_share 79 184 154 = true)) w_3_86 w_3_84 w_3_85 w_1_16 (by decide +kernel) (by decide)⟩
theorem oX8_share_82 : pm_okF cX8_share RX8 9 false 82 (s_is 6 84) := k_istore (dk_istore (by decide +kernel : bk2 cX8_share 82 54 6 = true)) (by decide)
theorem oX8_share_84 : pm_okF cX8_share RX8 9 false 84 (s_const (.retAddr 1) 87) := k_gets_fac w_4_88 (dk_getstatic (by decide +kernel : bk3 cX8_share 84 178 241 = true))
theorem oX8_share_87 : pm_okF cX8_share RX8 9 false 87 (s_il 6 89) := k_iload (dk_iload (by decide +kernel : bk2 cX8_share 87 21 6 = true))
theorem oX8_share_89 : pm_okF cX8_share RX8 9 false 89 (s_tald 90) := k_tald (dk_iaload (by decide +kernel : bk1 cX8_share 89 46 = true))
theorem oX8_share_90 : pm_okF cX8_share RX8 9 false 90 (s_i2l 91) := k_i2l (dk_i2l (by decide +kernel : bk1 cX8_share 90 133 = true))
theorem oX8_share_91 : pm_okF cX8_share RX8 9 false 91 (s_const (.retAddr 1) 94) := k_gets_fac w_4_88 (dk_getstatic (by decide +kernel : bk3 cX8_share 91 178 241 = true))
theorem oX8_share_94 : pm_okF cX8_share RX8 9 false 94 (s_al 0 95) := k_aload_n (dk_aload_n_0 (by decide +kernel : bk1 cX8_share 94 42 = true)) rfl
theorem oX8_share_95 : pm_okF cX8_share RX8 9 false 95 (s_getf 8 2 98) := k_getf (C := RX8) (T := TX8) (N := 12) rfl inX8 (by decide) w_2_28 (dk_getfield (by decide +kernel : bk3 cX8_share 95 180 28 = true))
theorem oX8_share_98 : pm_okF cX8_share RX8 9 false 98 (s_getf 5 4 101) := k_getf (C := RX5) (T := TX5) (N := 15) rfl inX5 (by decide) w_1_69 (dk_getfield (by decide +kernel : bk3 cX8_share 98 180 148 = true))
theorem oX8_share_101 : pm_okF cX8_share RX8 9 false 101 (s_const (.int 1) 102) := k_iconst (dk_iconst_1 (by decide +kernel : bk1 cX8_share 101 4 = true)) (by decide)
theorem oX8_share_102 : pm_okF cX8_share RX8 9 false 102 (s_bin (fun x y => x - y) 103) := k_isub (dk_isub (by decide +kernel : bk1 cX8_share 102 100 = true))
theorem oX8_share_103 : pm_okF cX8_share RX8 9 false 103 (s_il 6 105) := k_iload (dk_iload (by decide +kernel : bk2 cX8_share 103 21 6 = true))
theorem oX8_share_105 : pm_okF cX8_share RX8 9 false 105 (s_bin (fun x y => x - y) 106) := k_isub (dk_isub (by decide +kernel : bk1 cX8_share 105 100 = true))
theorem oX8_share_106 : pm_okF cX8_share RX8 9 false 106 (s_tald 107) := k_tald (dk_iaload (by decide +kernel : bk1 cX8_share 106 46 = true))
theorem oX8_share_107 : pm_okF cX8_share RX8 9 false 107 (s_i2l 108) := k_i2l (dk_i2l (by decide +kernel : bk1 cX8_share 107 133 = true))
theorem oX8_share_108 : pm_okF cX8_share RX8 9 false 108 (s_lbin (fun x y => x * y) 109) := k_lmul (dk_lmul (by decide +kernel : bk1 cX8_share 108 105 = true))
theorem oX8_share_109 : pm_okF cX8_share RX8 9 false 109 (s_ls 7 111) := k_lstore (dk_lstore (by decide +kernel : bk2 cX8_share 109 55 7 = true)) (by decide)
theorem oX8_share_111 : pm_okF cX8_share RX8 9 false 111 (s_ll 3 112) := k_lload_n (dk_lload_n_3 (by decide +kernel : bk1 cX8_share 111 33 = true)) rfl
theorem oX8_share_112 : pm_okF cX8_share RX8 9 false 112 (s_ll 7 114) := k_lload (dk_lload (by decide +kernel : bk2 cX8_share 112 22 7 = true))
theorem oX8_share_114 : pm_okF cX8_share RX8 9 false 114 (s_al 0 115) := k_aload_n (dk_aload_n_0 (by decide +kernel : bk1 cX8_share 114 42 = true)) rfl
theorem oX8_share_115 : pm_okF cX8_share RX8 9 false 115 (s_getf 8 9 118) := k_getf (C := RX8) (T := TX8) (N := 12) rfl inX8 (by decide) w_2_35 (dk_getfield (by decide +kernel : bk3 cX8_share 115 180 71 = true))
theorem oX8_share_118 : pm_okF cX8_share RX8 9 false 118 (s_getf 3 1 121) := k_getf (C := RX3) (T := TX3) (N := 2) rfl inX3 (by decide) w_2_20 (dk_getfield (by decide +kernel : bk3 cX8_share 118 180 335 = true))
theorem oX8_share_121 : pm_okF cX8_share RX8 9 false 121 (s_il 5 123) := k_iload (dk_iload (by decide +kernel : bk2 cX8_share 121 21 5 = true))
theorem oX8_share_123 : pm_okF cX8_share RX8 9 false 123 (s_const (.int 1) 124) := k_iconst (dk_iconst_1 (by decide +kernel : bk1 cX8_share 123 4 = true)) (by decide)
theorem oX8_share_124 : pm_okF cX8_share RX8 9 false 124 (s_il 1 125) := k_iload_n (dk_iload_n_1 (by decide +kernel : bk1 cX8_share 124 27 = true)) rfl
theorem oX8_share_125 : pm_okF cX8_share RX8 9 false 125 (s_bin (fun x y => x <<< (y &&& 31)) 126) := k_ishl (dk_ishl (by decide +kernel : bk1 cX8_share 125 120 = true))
theorem oX8_share_126 : pm_okF cX8_share RX8 9 false 126 (s_bin (fun x y => x ||| y) 127) := k_ior (dk_ior (by decide +kernel : bk1 cX8_share 126 128 = true))
theorem oX8_share_127 : pm_okF cX8_share RX8 9 false 127 (s_iald 128) := k_iald (dk_iaload (by decide +kernel : bk1 cX8_share 127 46 = true))
theorem oX8_share_128 : pm_okF cX8_share RX8 9 false 128 (s_al 0 129) := k_aload_n (dk_aload_n_0 (by decide +kernel : bk1 cX8_share 128 42 = true)) rfl
theorem oX8_share_129 : pm_okF cX8_share RX8 9 false 129 (s_getf 8 9 132) := k_getf (C := RX8) (T := TX8) (N := 12) rfl inX8 (by decide) w_2_35 (dk_getfield (by decide +kernel : bk3 cX8_share 129 180 71 = true))
theorem oX8_share_132 : pm_okF cX8_share RX8 9 false 132 (s_getf 3 1 135) := k_getf (C := RX3) (T := TX3) (N := 2) rfl inX3 (by decide) w_2_20 (dk_getfield (by decide +kernel : bk3 cX8_share 132 180 335 = true))
theorem oX8_share_135 : pm_okF cX8_share RX8 9 false 135 (s_il 5 137) := k_iload (dk_iload (by decide +kernel : bk2 cX8_share 135 21 5 = true))
theorem oX8_share_137 : pm_okF cX8_share RX8 9 false 137 (s_iald 138) := k_iald (dk_iaload (by decide +kernel : bk1 cX8_share 137 46 = true))
theorem oX8_share_138 : pm_okF cX8_share RX8 9 false 138 (s_bin (fun x y => x - y) 139) := k_isub (dk_isub (by decide +kernel : bk1 cX8_share 138 100 = true))
theorem oX8_share_139 : pm_okF cX8_share RX8 9 false 139 (s_i2l 140) := k_i2l (dk_i2l (by decide +kernel : bk1 cX8_share 139 133 = true))
theorem oX8_share_140 : pm_okF cX8_share RX8 9 false 140 (s_lbin (fun x y => x * y) 141) := k_lmul (dk_lmul (by decide +kernel : bk1 cX8_share 140 105 = true))
theorem oX8_share_141 : pm_okF cX8_share RX8 9 false 141 (s_lbin (fun x y => x + y) 142) := k_ladd (dk_ladd (by decide +kernel : bk1 cX8_share 141 97 = true))
theorem oX8_share_142 : pm_okF cX8_share RX8 9 false 142 (s_ls 3 143) := k_lstore_n (dk_lstore_n_3 (by decide +kernel : bk1 cX8_share 142 66 = true)) rfl (by decide)
theorem oX8_share_143 : pm_okF cX8_share RX8 9 false 143 (s_inc 5 1 146) := k_iinc (dk_iinc (by decide +kernel : bkI cX8_share 143 132 5 1 = true)) (by decide) (by decide)
theorem oX8_share_146 : pm_okF cX8_share RX8 9 false 146 (s_goto 59) := k_goto (dk_goto (by decide +kernel : bkS cX8_share 146 167 (-87) = true)) (by decide)
theorem oX8_share_149 : pm_okF cX8_share RX8 9 false 149 (s_ll 3 150) := k_lload_n (dk_lload_n_3 (by decide +kernel : bk1 cX8_share 149 33 = true)) rfl
theorem oX8_share_150 : pm_okF cX8_share RX8 9 false 150 (s_const (.retAddr 1) 153) := k_gets_fac w_4_88 (dk_getstatic (by decide +kernel : bk3 cX8_share 150 178 241 = true))
theorem oX8_share_153 : pm_okF cX8_share RX8 9 false 153 (s_al 0 154) := k_aload_n (dk_aload_n_0 (by decide +kernel : bk1 cX8_share 153 42 = true)) rfl
theorem oX8_share_154 : pm_okF cX8_share RX8 9 false 154 (s_getf 8 2 157) := k_getf (C := RX8) (T := TX8) (N := 12) rfl inX8 (by decide) w_2_28 (dk_getfield (by decide +kernel : bk3 cX8_share 154 180 28 = true))
theorem oX8_share_157 : pm_okF cX8_share RX8 9 false 157 (s_getf 5 4 160) := k_getf (C := RX5) (T := TX5) (N := 15) rfl inX5 (by decide) w_1_69 (dk_getfield (by decide +kernel : bk3 cX8_share 157 180 148 = true))
theorem oX8_share_160 : pm_okF cX8_share RX8 9 false 160 (s_tald 161) := k_tald (dk_iaload (by decide +kernel : bk1 cX8_share 160 46 = true))
theorem oX8_share_161 : pm_okF cX8_share RX8 9 false 161 (s_i2l 162) := k_i2l (dk_i2l (by decide +kernel : bk1 cX8_share 161 133 = true))
theorem oX8_share_162 : pm_okF cX8_share RX8 9 false 162 (s_il 2 163) := k_iload_n (dk_iload_n_2 (by decide +kernel : bk1 cX8_share 162 28 = true)) rfl
theorem oX8_share_163 : ∃ I : pm_M, pm_at pm_P 190 = some I ∧ I.2.2.2.2.2.1 = 0 ∧ I.2.2.2.2.2.2.1 = 0 ∧ pm_okC cX8_share RX8 9 false 163 I.1 I.2.1 I.2.2.1 I.2.2.2.1 3 (none) 0 0 := ⟨iX8_term, aiX8_term, rfl, rfl, k_callS (n := 3) (dk_invokestatic (by decide +kernel : bk3 cX8_share 163 184 337 = true)) w_5_29 w_5_27 w_5_28 w_1_1 (by decide +kernel) (by decide)⟩
theorem oX8_share_166 : pm_okF cX8_share RX8 9 false 166 (s_l2i 167) := k_l2i (dk_l2i (by decide +kernel : bk1 cX8_share 166 136 = true))
theorem oX8_share_167 : pm_okR cX8_share (some .int) 167 1 := ⟨rfl, (dk_ireturn (by decide +kernel : bk1 cX8_share 167 172 = true))⟩
set_option maxRecDepth 20000 in
theorem oX8_share : pm_okM pm_P iX8_share := ⟨rfl, (fun h => by cases h), List.forall_mem_cons.mpr ⟨oX8_share_0, List.forall_mem_cons.mpr ⟨oX8_share_1, List.forall_mem_cons.mpr ⟨oX8_share_2, List.forall_mem_cons.mpr ⟨oX8_share_5, List.forall_mem_cons.mpr ⟨oX8_share_8, List.forall_mem_cons.mpr ⟨oX8_share_9, List.forall_mem_cons.mpr ⟨oX8_share_12, List.forall_mem_cons.mpr ⟨oX8_share_15, List.forall_mem_cons.mpr ⟨oX8_share_18, List.forall_mem_cons.mpr ⟨oX8_share_19, List.forall_mem_cons.mpr ⟨oX8_share_20, List.forall_mem_cons.mpr ⟨oX8_share_23, List.forall_mem_cons.mpr ⟨oX8_share_24, List.forall_mem_cons.mpr ⟨oX8_share_27, List.forall_mem_cons.mpr ⟨oX8_share_30, List.forall_mem_cons.mpr ⟨oX8_share_31, List.forall_mem_cons.mpr ⟨oX8_share_34, List.forall_mem_cons.mpr ⟨oX8_share_37, List.forall_mem_cons.mpr ⟨oX8_share_38, List.forall_mem_cons.mpr ⟨oX8_share_41, List.forall_mem_cons.mpr ⟨oX8_share_44, List.forall_mem_cons.mpr ⟨oX8_share_45, List.forall_mem_cons.mpr ⟨oX8_share_48, List.forall_mem_cons.mpr ⟨oX8_share_51, List.forall_mem_cons.mpr ⟨oX8_share_54, List.forall_mem_cons.mpr ⟨oX8_share_55, List.forall_mem_cons.mpr ⟨oX8_share_56, List.forall_mem_cons.mpr ⟨oX8_share_57, List.forall_mem_cons.mpr ⟨oX8_share_59, List.forall_mem_cons.mpr ⟨oX8_share_61, List.forall_mem_cons.mpr ⟨oX8_share_62, List.forall_mem_cons.mpr ⟨oX8_share_65, List.forall_mem_cons.mpr ⟨oX8_share_68, List.forall_mem_cons.mpr ⟨oX8_share_70, List.forall_mem_cons.mpr ⟨oX8_share_71, List.forall_mem_cons.mpr ⟨oX8_share_72, List.forall_mem_cons.mpr ⟨oX8_share_73, List.forall_mem_cons.mpr ⟨oX8_share_74, List.forall_mem_cons.mpr ⟨oX8_share_77, List.forall_mem_cons.mpr ⟨oX8_share_79, List.forall_mem_cons.mpr ⟨oX8_share_82, List.forall_mem_cons.mpr ⟨oX8_share_84, List.forall_mem_cons.mpr ⟨oX8_share_87, List.forall_mem_cons.mpr ⟨oX8_share_89, List.forall_mem_cons.mpr ⟨oX8_share_90, List.forall_mem_cons.mpr ⟨oX8_share_91, List.forall_mem_cons.mpr ⟨oX8_share_94, List.forall_mem_cons.mpr ⟨oX8_share_95, List.forall_mem_cons.mpr ⟨oX8_share_98, List.forall_mem_cons.mpr ⟨oX8_share_101, List.forall_mem_cons.mpr ⟨oX8_share_102, List.forall_mem_cons.mpr ⟨oX8_share_103, List.forall_mem_cons.mpr ⟨oX8_share_105, List.forall_mem_cons.mpr ⟨oX8_share_106, List.forall_mem_cons.mpr ⟨oX8_share_107, List.forall_mem_cons.mpr ⟨oX8_share_108, List.forall_mem_cons.mpr ⟨oX8_share_109, List.forall_mem_cons.mpr ⟨oX8_share_111, List.forall_mem_cons.mpr ⟨oX8_share_112, List.forall_mem_cons.mpr ⟨oX8_share_114, List.forall_mem_cons.mpr ⟨oX8_share_115, List.forall_mem_cons.mpr ⟨oX8_share_118, List.forall_mem_cons.mpr ⟨oX8_share_121, List.forall_mem_cons.mpr ⟨oX8_share_123, List.forall_mem_cons.mpr ⟨oX8_share_124, List.forall_mem_cons.mpr ⟨oX8_share_125, List.forall_mem_cons.mpr ⟨oX8_share_126, List.forall_mem_cons.mpr ⟨oX8_share_127, List.forall_mem_cons.mpr ⟨oX8_share_128, List.forall_mem_cons.mpr ⟨oX8_share_129, List.forall_mem_cons.mpr ⟨oX8_share_132, List.forall_mem_cons.mpr ⟨oX8_share_135, List.forall_mem_cons.mpr ⟨oX8_share_137, List.forall_mem_cons.mpr ⟨oX8_share_138, List.forall_mem_cons.mpr ⟨oX8_share_139, List.forall_mem_cons.mpr ⟨oX8_share_140, List.forall_mem_cons.mpr ⟨oX8_share_141, List.forall_mem_cons.mpr ⟨oX8_share_142, List.forall_mem_cons.mpr ⟨oX8_share_143, List.forall_mem_cons.mpr ⟨oX8_share_146, List.forall_mem_cons.mpr ⟨oX8_share_149, List.forall_mem_cons.mpr ⟨oX8_share_150, List.forall_mem_cons.mpr ⟨oX8_share_153, List.forall_mem_cons.mpr ⟨oX8_share_154, List.forall_mem_cons.mpr ⟨oX8_share_157, List.forall_mem_cons.mpr ⟨oX8_share_160, List.forall_mem_cons.mpr ⟨oX8_share_161, List.forall_mem_cons.mpr ⟨oX8_share_162, List.forall_mem_cons.mpr ⟨oX8_share_163, List.forall_mem_cons.mpr ⟨oX8_share_166, List.forall_mem_cons.mpr ⟨oX8_share_167, fun _ h => absurd h List.not_mem_nil⟩⟩⟩⟩⟩⟩⟩⟩⟩⟩⟩⟩⟩⟩⟩⟩⟩⟩⟩⟩⟩⟩⟩⟩⟩⟩⟩⟩⟩⟩⟩⟩⟩⟩⟩⟩⟩⟩⟩⟩⟩⟩⟩⟩⟩⟩⟩⟩⟩⟩⟩⟩⟩⟩⟩⟩⟩⟩⟩⟩⟩⟩⟩⟩⟩⟩⟩⟩⟩⟩⟩⟩⟩⟩⟩⟩⟩⟩⟩⟩⟩⟩⟩⟩⟩⟩⟩⟩⟩⟩⟩⟩
end
section
/-! the rows are sound (written by tab2.py) -/
set_option maxRecDepth 20000 in
theorem oX8_shifted : pm_okM pm_P iX8_shifted := rows_M (kd := 1) rfl (fun h => by cases h) (abX8_shifted w0) poRX8_g pcRX8_g rfl (by decide +kernel)
set_option maxRecDepth 20000 in
theorem oX8_shifts : pm_okM pm_P iX8_shifts := rows_M (kd := 1) rfl (fun h => by cases h) (abX8_shifts w0) poRX8_g pcRX8_g rfl (by decide +kernel)
set_option maxRecDepth 20000 in
theorem oX8_sightRefusal : pm_okM pm_P iX8_sightRefusal := rows_M (kd := 1) rfl (fun h => by cases h) (abX8_sightRefusal w0) poRX8_g pcRX8_g rfl (by decide +kernel)
set_option maxRecDepth 20000 in
theorem oX8_slotsWithRows : pm_okM pm_P iX8_slotsWithRows := rows_M (kd := 1) rfl (fun h => by cases h) (abX8_slotsWithRows w0) poRX8_g pcRX8_g rfl (by decide +kernel)
set_option maxRecDepth 20000 in
theorem oX8_sorted : pm_okM pm_P iX8_sorted := rows_M (kd := 1) rfl (fun h => by cases h) (abX8_sorted w0) poRX8_g pcRX8_g rfl (by decide +kernel)
set_option maxRecDepth 20000 in
theorem oX8_steps : pm_okM pm_P iX8_steps := rows_M (kd := 1) rfl (fun h => by cases h) (abX8_steps w0) poRX8_g pcRX8_g rfl (by decide +kernel)
set_option maxRecDepth 20000 in
theorem oX8_stepsInLot : pm_okM pm_P iX8_stepsInLot := rows_M (kd := 1) rfl (fun h => by cases h) (abX8_stepsInLot w0) poRX8_g pcRX8_g rfl (by decide +kernel)
set_option maxRecDepth 20000 in
theorem oX8_street : pm_okM pm_P iX8_street := rows_M (kd := 1) rfl (fun h => by cases h) (abX8_street w0) poRX8_g pcRX8_g rfl (by decide +kernel)
set_option maxRecDepth 20000 in
theorem oX8_sum : pm_okM pm_P iX8_sum := rows_M (kd := 1) rfl (fun h => by cases h) (abX8_sum w0) poRX8_g pcRX8_g rfl (by decide +kernel)
set_option maxRecDepth 20000 in
theorem oX8_swap : pm_okM pm_P iX8_swap := rows_M (kd := 1) rfl (fun h => by cases h) (abX8_swap w0) poRX8_g pcRX8_g rfl (by decide +kernel)
set_option maxRecDepth 20000 in
theorem oX8_takenUpTo : pm_okM pm_P iX8_takenUpTo := rows_M (kd := 1) rfl (fun h => by cases h) (abX8_takenUpTo w0) poRX8_g pcRX8_g rfl (by decide +kernel)
theorem oX8_tally_0 : pm_okF cX8_tally RX8 3 false 0 (s_al 0 1) := k_aload_n (dk_aload_n_0 (by decide +kernel : bk1 cX8_tally 0 42 = true)) rfl
theorem oX8_tally_1 : pm_okF cX8_tally RX8 3 false 1 (s_il 1 2) := k_iload_n (dk_iload_n_1 (by decide +kernel : bk1 cX8_tally 1 27 = true)) rfl
theorem oX8_tally_2 : ∃ I : pm_M, pm_at pm_P 128 = some I ∧ I.2.2.2.2.2.1 = 0 ∧ I.2.2.2.2.2.2.1 = 0 ∧ pm_okC cX8_tally RX8 3 false 2 I.1 I.2.1 I.2.2.1 I.2.2.2.1 2 (some 8) 0 0 := ⟨iX8_isTallied, aiX8_isTallied, rfl, rfl, k_callV (n := 1) (T := TX8) (N := 12) (dk_invokevirtual (by decide +kernel : bk3 cX8_tally 2 182 232 = true)) rfl w_4_66 w_4_63 w_4_65 w_0_37 w_1_1 (by decide +kernel) (by decide) (by decide)⟩
theorem oX8_tally_5 : pm_okF cX8_tally RX8 3 false 5 (s_if (fun x => decide (x = 0)) 18 8) := k_if_eq (dk_ifCond_eq (by decide +kernel : bkS cX8_tally 5 153 13 = true)) (by decide)
theorem oX8_tally_8 : pm_okF cX8_tally RX8 3 false 8 (s_il 2 9) := k_iload_n (dk_iload_n_2 (by decide +kernel : bk1 cX8_tally 8 28 = true)) rfl
theorem oX8_tally_9 : pm_okF cX8_tally RX8 3 false 9 (s_if (fun x => decide (x < 0)) 18 12) := k_if_lt (dk_ifCond_lt (by decide +kernel : bkS cX8_tally 9 155 9 = true)) (by decide)
theorem oX8_tally_12 : pm_okF cX8_tally RX8 3 false 12 (s_il 2 13) := k_iload_n (dk_iload_n_2 (by decide +kernel : bk1 cX8_tally 12 28 = true)) rfl
theorem oX8_tally_13 : pm_okF cX8_tally RX8 3 false 13 (s_const (.int 20) 15) := k_bipush (dk_bipush (by decide +kernel : bkB cX8_tally 13 16 20 = true)) (by decide)
theorem oX8_tally_15 : pm_okF cX8_tally RX8 3 false 15 (s_icmp (fun x y => decide (x ≤ y)) 21 18) := k_icmp_le (dk_if_icmp_le (by decide +kernel : bkS cX8_tally 15 164 6 = true)) (by decide)
theorem oX8_tally_18 : pm_okF cX8_tally RX8 3 false 18 (s_const (.int (-2)) 20) := k_bipush (dk_bipush (by decide +kernel : bkB cX8_tally 18 16 (-2) = true)) (by decide)
theorem oX8_tally_20 : pm_okR cX8_tally (some .int) 20 1 := ⟨rfl, (dk_ireturn (by decide +kernel : bk1 cX8_tally 20 172 = true))⟩
theorem oX8_tally_21 : pm_okF cX8_tally RX8 3 false 21 (s_il 2 22) := k_iload_n (dk_iload_n_2 (by decide +kernel : bk1 cX8_tally 21 28 = true)) rfl
theorem oX8_tally_22 : pm_okF cX8_tally RX8 3 false 22 (s_const (.int 11) 24) := k_bipush (dk_bipush (by decide +kernel : bkB cX8_tally 22 16 11 = true)) (by decide)
theorem oX8_tally_24 : pm_okF cX8_tally RX8 3 false 24 (s_icmp (fun x y => decide (y ≤ x)) 42 27) := k_icmp_ge (dk_if_icmp_ge (by decide +kernel : bkS cX8_tally 24 162 18 = true)) (by decide)
theorem oX8_tally_27 : pm_okF cX8_tally RX8 3 false 27 (s_const (.retAddr 2) 30) := k_gets_rbs w_4_78 (dk_getstatic (by decide +kernel : bk3 cX8_tally 27 178 427 = true))
theorem oX8_tally_30 : pm_okF cX8_tally RX8 3 false 30 (s_il 1 31) := k_iload_n (dk_iload_n_1 (by decide +kernel : bk1 cX8_tally 30 27 = true)) rfl
theorem oX8_tally_31 : pm_okF cX8_tally RX8 3 false 31 (s_const (.int 1) 32) := k_iconst (dk_iconst_1 (by decide +kernel : bk1 cX8_tally 31 4 = true)) (by decide)
theorem oX8_tally_32 : pm_okF cX8_tally RX8 3 false 32 (s_bin (fun x y => x - y) 33) := k_isub (dk_isub (by decide +kernel : bk1 cX8_tally 32 100 = true))
theorem oX8_tally_33 : pm_okF cX8_tally RX8 3 false 33 (s_const (.int 11) 35) := k_bipush (dk_bipush (by decide +kernel : bkB cX8_tally 33 16 11 = true)) (by decide)
theorem oX8_tally_35 : pm_okF cX8_tally RX8 3 false 35 (s_bin (fun x y => x * y) 36) := k_imul (dk_imul (by decide +kernel : bk1 cX8_tally 35 104 = true))
theorem oX8_tally_36 : pm_okF cX8_tally RX8 3 false 36 (s_il 2 37) := k_iload_n (dk_iload_n_2 (by decide +kernel : bk1 cX8_tally 36 28 = true)) rfl
theorem oX8_tally_37 : pm_okF cX8_tally RX8 3 false 37 (s_bin (fun x y => x + y) 38) := k_iadd (dk_iadd (by decide +kernel : bk1 cX8_tally 37 96 = true))
theorem oX8_tally_38 : pm_okF cX8_tally RX8 3 false 38 (s_tald 39) := k_tald (dk_iaload (by decide +kernel : bk1 cX8_tally 38 46 = true))
theorem oX8_tally_39 : pm_okF cX8_tally RX8 3 false 39 (s_goto 43) := k_goto (dk_goto (by decide +kernel : bkS cX8_tally 39 167 4 = true)) (by decide)
theorem oX8_tally_42 : pm_okF cX8_tally RX8 3 false 42 (s_const (.int 0) 43) := k_iconst (dk_iconst_0 (by decide +kernel : bk1 cX8_tally 42 3 = true)) (by decide)
theorem oX8_tally_43 : pm_okR cX8_tally (some .int) 43 1 := ⟨rfl, (dk_ireturn (by decide +kernel : bk1 cX8_tally 43 172 = true))⟩
set_option maxRecDepth 20000 in
theorem oX8_tally : pm_okM pm_P iX8_tally := ⟨rfl, (fun h => by cases h), List.forall_mem_cons.mpr ⟨oX8_tally_0, List.forall_mem_cons.mpr ⟨oX8_tally_1, List.forall_mem_cons.mpr ⟨oX8_tally_2, List.forall_mem_cons.mpr ⟨oX8_tally_5, List.forall_mem_cons.mpr ⟨oX8_tally_8, List.forall_mem_cons.mpr ⟨oX8_tally_9, List.forall_mem_cons.mpr ⟨oX8_tally_12, List.forall_mem_cons.mpr ⟨oX8_tally_13, List.forall_mem_cons.mpr ⟨oX8_tally_15, List.forall_mem_cons.mpr ⟨oX8_tally_18, List.forall_mem_cons.mpr ⟨oX8_tally_20, List.forall_mem_cons.mpr ⟨oX8_tally_21, List.forall_mem_cons.mpr ⟨oX8_tally_22, List.forall_mem_cons.mpr ⟨oX8_tally_24, List.forall_mem_cons.mpr ⟨oX8_tally_27, List.forall_mem_cons.mpr ⟨oX8_tally_30, List.forall_mem_cons.mpr ⟨oX8_tally_31, List.forall_mem_cons.mpr ⟨oX8_tally_32, List.forall_mem_cons.mpr ⟨oX8_tally_33, List.forall_mem_cons.mpr ⟨oX8_tally_35, List.forall_mem_cons.mpr ⟨oX8_tally_36, List.forall_mem_cons.mpr ⟨oX8_tally_37, List.forall_mem_cons.mpr ⟨oX8_tally_38, List.forall_mem_cons.mpr ⟨oX8_tally_39, List.forall_mem_cons.mpr ⟨oX8_tally_42, List.forall_mem_cons.mpr ⟨oX8_tally_43, fun _ h => absurd h List.not_mem_nil⟩⟩⟩⟩⟩⟩⟩⟩⟩⟩⟩⟩⟩⟩⟩⟩⟩⟩⟩⟩⟩⟩⟩⟩⟩⟩⟩
set_option maxRecDepth 20000 in
theorem oX8_term : pm_okM pm_P iX8_term := rows_M (kd := 3) rfl (fun h => by cases h) (abX8_term w0) poRX8_g pcRX8_g rfl (by decide +kernel)
set_option maxRecDepth 20000 in
theorem oX8_trades : pm_okM pm_P iX8_trades := rows_M (kd := 1) rfl (fun h => by cases h) (abX8_trades w0) poRX8_g pcRX8_g rfl (by decide +kernel)
set_option maxRecDepth 20000 in
theorem oX8_trees : pm_okM pm_P iX8_trees := rows_M (kd := 1) rfl (fun h => by cases h) (abX8_trees w0) poRX8_g pcRX8_g rfl (by decide +kernel)
set_option maxRecDepth 20000 in
theorem oX8_tryWishes : pm_okM pm_P iX8_tryWishes := rows_M (kd := 0) rfl (fun h => by cases h) (abX8_tryWishes w0) poRX8_g pcRX8_g rfl (by decide +kernel)
set_option maxRecDepth 20000 in
theorem oX8_turned : pm_okM pm_P iX8_turned := rows_M (kd := 1) rfl (fun h => by cases h) (abX8_turned w0) poRX8_g pcRX8_g rfl (by decide +kernel)
set_option maxRecDepth 20000 in
theorem oX8_undo : pm_okM pm_P iX8_undo := rows_M (kd := 1) rfl (fun h => by cases h) (abX8_undo w0) poRX8_g pcRX8_g rfl (by decide +kernel)
set_option maxRecDepth 20000 in
theorem oX8_upset : pm_okM pm_P iX8_upset := rows_M (kd := 1) rfl (fun h => by cases h) (abX8_upset w0) poRX8_g pcRX8_g rfl (by decide +kernel)
set_option maxRecDepth 20000 in
theorem oX8_visit : pm_okM pm_P iX8_visit := rows_M (kd := 1) rfl (fun h => by cases h) (abX8_visit w0) poRX8_g pcRX8_g rfl (by decide +kernel)
set_option maxRecDepth 20000 in
theorem oX8_wants : pm_okM pm_P iX8_wants := rows_M (kd := 1) rfl (fun h => by cases h) (abX8_wants w0) poRX8_g pcRX8_g rfl (by decide +kernel)
set_option maxRecDepth 20000 in
theorem oX8_wish : pm_okM pm_P iX8_wish := rows_M (kd := 1) rfl (fun h => by cases h) (abX8_wish w0) poRX8_g pcRX8_g rfl (by decide +kernel)
set_option maxRecDepth 20000 in
theorem oX8_wishesUpTo : pm_okM pm_P iX8_wishesUpTo := rows_M (kd := 1) rfl (fun h => by cases h) (abX8_wishesUpTo w0) poRX8_g pcRX8_g rfl (by decide +kernel)
set_option maxRecDepth 20000 in
theorem oX8_worst : pm_okM pm_P iX8_worst := rows_M (kd := 1) rfl (fun h => by cases h) (abX8_worst w0) poRX8_g pcRX8_g rfl (by decide +kernel)
set_option maxRecDepth 20000 in
theorem oX8_worth : pm_okM pm_P iX8_worth := rows_M (kd := 1) rfl (fun h => by cases h) (abX8_worth w0) poRX8_g pcRX8_g rfl (by decide +kernel)
set_option maxRecDepth 20000 in
theorem oX8_write : pm_okM pm_P iX8_write := rows_M (kd := 1) rfl (fun h => by cases h) (abX8_write w0) poRX8_g pcRX8_g rfl (by decide +kernel)
end
section
/-! the rows are sound (written by tab2.py) -/
set_option maxRecDepth 20000 in
theorem oX9_above : pm_okM pm_P iX9_above := rows_M (kd := 1) rfl (fun h => by cases h) (abX9_above w0) poRX9_g pcRX9_g rfl (by decide +kernel)
set_option maxRecDepth 20000 in
theorem oX9_above0 : pm_okM pm_P iX9_above0 := rows_M (kd := 1) rfl (fun h => by cases h) (abX9_above0 w0) poRX9_g pcRX9_g rfl (by decide +kernel)
set_option maxRecDepth 20000 in
theorem oX9_across : pm_okM pm_P iX9_across := rows_M (kd := 1) rfl (fun h => by cases h) (abX9_across w0) poRX9_g pcRX9_g rfl (by decide +kernel)
set_option maxRecDepth 20000 in
theorem oX9_anew : pm_okM pm_P iX9_anew := rows_M (kd := 1) rfl (fun h => by cases h) (abX9_anew w0) poRX9_g pcRX9_g rfl (by decide +kernel)
set_option maxRecDepth 20000 in
theorem oX9_areTwo : pm_okM pm_P iX9_areTwo := rows_M (kd := 2) rfl (fun h => by cases h) (abX9_areTwo w0) poRX9_g pcRX9_g rfl (by decide +kernel)
set_option maxRecDepth 20000 in
theorem oX9_ask : pm_okM pm_P iX9_ask := rows_M (kd := 1) rfl (fun h => by cases h) (abX9_ask w0) poRX9_g pcRX9_g rfl (by decide +kernel)
theorem oX9_asks_0 : pm_okF cX9_asks RX9 3 false 0 (s_al 0 1) := k_aload_n (dk_aload_n_0 (by decide +kernel : bk1 cX9_asks 0 42 = true)) rfl
theorem oX9_asks_1 : pm_okF cX9_asks RX9 3 false 1 (s_ll 1 2) := k_lload_n (dk_lload_n_1 (by decide +kernel : bk1 cX9_asks 1 31 = true)) rfl
theorem oX9_asks_2 : ∃ I : pm_M, pm_at pm_P 358 = some I ∧ I.2.2.2.2.2.1 = 0 ∧ I.2.2.2.2.2.2.1 = 0 ∧ pm_okC cX9_asks RX9 3 false 2 I.1 I.2.1 I.2.2.1 I.2.2.2.1 2 (some 9) 0 0 := ⟨iX9_takesWord, aiX9_takesWord, rfl, rfl, k_callV (n := 1) (T := TX9) (N := 45) (dk_invokevirtual (by decide +kernel : bk3 cX9_asks 2 182 157 = true)) rfl w_6_141 w_6_138 w_6_140 w_0_67 w_1_10 (by decide +kernel) (by decide) (by decide)⟩
theorem oX9_asks_5 : pm_okF cX9_asks RX9 3 false 5 (s_if (fun x => decide (¬ x = 0)) 13 8) := k_if_ne (dk_ifCond_ne (by decide +kernel : bkS cX9_asks 5 154 8 = true)) (by decide)
theorem oX9_asks_8 : pm_okF cX9_asks RX9 3 false 8 (s_al 0 9) := k_aload_n (dk_aload_n_0 (by decide +kernel : bk1 cX9_asks 8 42 = true)) rfl
theorem oX9_asks_9 : pm_okF cX9_asks RX9 3 false 9 (s_const (.int 1) 10) := k_iconst (dk_iconst_1 (by decide +kernel : bk1 cX9_asks 9 4 = true)) (by decide)
theorem oX9_asks_10 : ∃ I : pm_M, pm_at pm_P 243 = some I ∧ I.2.2.2.2.2.1 = 0 ∧ I.2.2.2.2.2.2.1 = 0 ∧ pm_okC cX9_asks RX9 3 false 10 I.1 I.2.1 I.2.2.1 I.2.2.2.1 2 (some 9) 0 0 := ⟨iX9_fails, aiX9_fails, rfl, rfl, k_callV (n := 1) (T := TX9) (N := 45) (dk_invokevirtual (by decide +kernel : bk3 cX9_asks 10 182 160 = true)) rfl w_6_149 w_6_146 w_6_148 w_0_69 w_1_10 (by decide +kernel) (by decide) (by decide)⟩
theorem oX9_asks_13 : pm_okR cX9_asks none 13 0 := ⟨rfl, (dk_return (by decide +kernel : bk1 cX9_asks 13 177 = true))⟩
set_option maxRecDepth 20000 in
theorem oX9_asks : pm_okM pm_P iX9_asks := ⟨rfl, (fun h => by cases h), List.forall_mem_cons.mpr ⟨oX9_asks_0, List.forall_mem_cons.mpr ⟨oX9_asks_1, List.forall_mem_cons.mpr ⟨oX9_asks_2, List.forall_mem_cons.mpr ⟨oX9_asks_5, List.forall_mem_cons.mpr ⟨oX9_asks_8, List.forall_mem_cons.mpr ⟨oX9_asks_9, List.forall_mem_cons.mpr ⟨oX9_asks_10, List.forall_mem_cons.mpr ⟨oX9_asks_13, fun _ h => absurd h List.not_mem_nil⟩⟩⟩⟩⟩⟩⟩⟩⟩
set_option maxRecDepth 20000 in
theorem oX9_astride : pm_okM pm_P iX9_astride := rows_M (kd := 1) rfl (fun h => by cases h) (abX9_astride w0) poRX9_g pcRX9_g rfl (by decide +kernel)
set_option maxRecDepth 20000 in
theorem oX9_back : pm_okM pm_P iX9_back := rows_M (kd := 1) rfl (fun h => by cases h) (abX9_back w0) poRX9_g pcRX9_g rfl (by decide +kernel)
theorem oX9_begins_0 : pm_okF cX9_begins RX9 1 false 0 (s_al 0 1) := k_aload_n (dk_aload_n_0 (by decide +kernel : bk1 cX9_begins 0 42 = true)) rfl
theorem oX9_begins_1 : pm_okF cX9_begins RX9 1 false 1 (s_const (.int 0) 2) := k_iconst (dk_iconst_0 (by decide +kernel : bk1 cX9_begins 1 3 = true)) (by decide)
theorem oX9_begins_2 : pm_okF cX9_begins RX9 1 false 2 (s_putf 9 12 (.int) 5) := k_putf (C := RX9) (T := TX9) (N := 45) rfl inX9 tyX9_ok nmX9 (by decide) rfl rfl w_5_178 (dk_putfield (by decide +kernel : bk3 cX9_begins 2 181 144 = true))
theorem oX9_begins_5 : pm_okF cX9_begins RX9 1 false 5 (s_al 0 6) := k_aload_n (dk_aload_n_0 (by decide +kernel : bk1 cX9_begins 5 42 = true)) rfl
theorem oX9_begins_6 : pm_okF cX9_begins RX9 1 false 6 (s_const (.int (-1)) 7) := k_iconst (dk_iconst_m (by decide +kernel : bk1 cX9_begins 6 2 = true)) (by decide)
theorem oX9_begins_7 : pm_okF cX9_begins RX9 1 false 7 (s_putf 9 13 (.int) 10) := k_putf (C := RX9) (T := TX9) (N := 45) rfl inX9 tyX9_ok nmX9 (by decide) rfl rfl w_5_179 (dk_putfield (by decide +kernel : bk3 cX9_begins 7 181 147 = true))
theorem oX9_begins_10 : pm_okF cX9_begins RX9 1 false 10 (s_al 0 11) := k_aload_n (dk_aload_n_0 (by decide +kernel : bk1 cX9_begins 10 42 = true)) rfl
theorem oX9_begins_11 : pm_okF cX9_begins RX9 1 false 11 (s_const (.int 0) 12) := k_iconst (dk_iconst_0 (by decide +kernel : bk1 cX9_begins 11 3 = true)) (by decide)
theorem oX9_begins_12 : pm_okF cX9_begins RX9 1 false 12 (s_putf 9 7 (.int) 15) := k_putf (C := RX9) (T := TX9) (N := 45) rfl inX9 tyX9_ok nmX9 (by decide) rfl rfl w_5_173 (dk_putfield (by decide +kernel : bk3 cX9_begins 12 181 116 = true))
theorem oX9_begins_15 : pm_okF cX9_begins RX9 1 false 15 (s_al 0 16) := k_aload_n (dk_aload_n_0 (by decide +kernel : bk1 cX9_begins 15 42 = true)) rfl
theorem oX9_begins_16 : ∃ I : pm_M, pm_at pm_P 251 = some I ∧ I.2.2.2.2.2.1 = 0 ∧ I.2.2.2.2.2.2.1 = 0 ∧ pm_okC cX9_begins RX9 1 false 16 I.1 I.2.1 I.2.2.1 I.2.2.2.1 1 (some 9) 0 0 := ⟨iX9_follows, aiX9_follows, rfl, rfl, k_callV (n := 0) (T := TX9) (N := 45) (dk_invokevirtual (by decide +kernel : bk3 cX9_begins 16 182 154 = true)) rfl w_6_119 w_6_116 w_6_118 w_0_63 w_1_10 (by decide +kernel) (by decide) (by decide)⟩
theorem oX9_begins_19 : pm_okR cX9_begins none 19 0 := ⟨rfl, (dk_return (by decide +kernel : bk1 cX9_begins 19 177 = true))⟩
set_option maxRecDepth 20000 in
theorem oX9_begins : pm_okM pm_P iX9_begins := ⟨rfl, (fun h => by cases h), List.forall_mem_cons.mpr ⟨oX9_begins_0, List.forall_mem_cons.mpr ⟨oX9_begins_1, List.forall_mem_cons.mpr ⟨oX9_begins_2, List.forall_mem_cons.mpr ⟨oX9_begins_5, List.forall_mem_cons.mpr ⟨oX9_begins_6, List.forall_mem_cons.mpr ⟨oX9_begins_7, List.forall_mem_cons.mpr ⟨oX9_begins_10, List.forall_mem_cons.mpr ⟨oX9_begins_11, List.forall_mem_cons.mpr ⟨oX9_begins_12, List.forall_mem_cons.mpr ⟨oX9_begins_15, List.forall_mem_cons.mpr ⟨oX9_begins_16, List.forall_mem_cons.mpr ⟨oX9_begins_19, fun _ h => absurd h List.not_mem_nil⟩⟩⟩⟩⟩⟩⟩⟩⟩⟩⟩⟩⟩
set_option maxRecDepth 20000 in
theorem oX9_blame : pm_okM pm_P iX9_blame := rows_M (kd := 1) rfl (fun h => by cases h) (abX9_blame w0) poRX9_g pcRX9_g rfl (by decide +kernel)
set_option maxRecDepth 20000 in
theorem oX9_block : pm_okM pm_P iX9_block := rows_M (kd := 1) rfl (fun h => by cases h) (abX9_block w0) poRX9_g pcRX9_g rfl (by decide +kernel)
set_option maxRecDepth 20000 in
theorem oX9_blockBits : pm_okM pm_P iX9_blockBits := rows_M (kd := 1) rfl (fun h => by cases h) (abX9_blockBits w0) poRX9_g pcRX9_g rfl (by decide +kernel)
set_option maxRecDepth 20000 in
theorem oX9_blocks : pm_okM pm_P iX9_blocks := rows_M (kd := 1) rfl (fun h => by cases h) (abX9_blocks w0) poRX9_g pcRX9_g rfl (by decide +kernel)
set_option maxRecDepth 20000 in
theorem oX9_blocksNow : pm_okM pm_P iX9_blocksNow := rows_M (kd := 1) rfl (fun h => by cases h) (abX9_blocksNow w0) poRX9_g pcRX9_g rfl (by decide +kernel)
set_option maxRecDepth 20000 in
theorem oX9_breaks : pm_okM pm_P iX9_breaks := rows_M (kd := 1) rfl (fun h => by cases h) (abX9_breaks w0) poRX9_g pcRX9_g rfl (by decide +kernel)
set_option maxRecDepth 20000 in
theorem oX9_burnt : pm_okM pm_P iX9_burnt := rows_M (kd := 1) rfl (fun h => by cases h) (abX9_burnt w0) poRX9_g pcRX9_g rfl (by decide +kernel)
set_option maxRecDepth 20000 in
theorem oX9_by : pm_okM pm_P iX9_by := rows_M (kd := 1) rfl (fun h => by cases h) (abX9_by w0) poRX9_g pcRX9_g rfl (by decide +kernel)
set_option maxRecDepth 20000 in
theorem oX9_car : pm_okM pm_P iX9_car := rows_M (kd := 1) rfl (fun h => by cases h) (abX9_car w0) poRX9_g pcRX9_g rfl (by decide +kernel)
theorem oX9_carLine_0 : pm_okF cX9_carLine RX9 2 false 0 (s_const (.int 2) 1) := k_iconst (dk_iconst_2 (by decide +kernel : bk1 cX9_carLine 0 5 = true)) (by decide)
theorem oX9_carLine_1 : pm_okF cX9_carLine RX9 2 false 1 (s_const (.int 32) 3) := k_bipush (dk_bipush (by decide +kernel : bkB cX9_carLine 1 16 32 = true)) (by decide)
theorem oX9_carLine_3 : pm_okF cX9_carLine RX9 2 false 3 (s_al 0 4) := k_aload_n (dk_aload_n_0 (by decide +kernel : bk1 cX9_carLine 3 42 = true)) rfl
theorem oX9_carLine_4 : pm_okF cX9_carLine RX9 2 false 4 (s_const (.int 3) 5) := k_iconst (dk_iconst_3 (by decide +kernel : bk1 cX9_carLine 4 6 = true)) (by decide)
theorem oX9_carLine_5 : ∃ I : pm_M, pm_at pm_P 257 = some I ∧ I.2.2.2.2.2.1 = 0 ∧ I.2.2.2.2.2.2.1 = 0 ∧ pm_okC cX9_carLine RX9 2 false 5 I.1 I.2.1 I.2.2.1 I.2.2.2.1 2 (some 9) 0 0 := ⟨iX9_hasRead, aiX9_hasRead, rfl, rfl, k_callV (n := 1) (T := TX9) (N := 45) (dk_invokevirtual (by decide +kernel : bk3 cX9_carLine 5 182 174 = true)) rfl w_6_169 w_6_166 w_6_168 w_0_73 w_1_10 (by decide +kernel) (by decide) (by decide)⟩
theorem oX9_carLine_8 : pm_okF cX9_carLine RX9 2 false 8 (s_bin (fun x y => x + y) 9) := k_iadd (dk_iadd (by decide +kernel : bk1 cX9_carLine 8 96 = true))
theorem oX9_carLine_9 : pm_okF cX9_carLine RX9 2 false 9 (s_bin (fun x y => x * y) 10) := k_imul (dk_imul (by decide +kernel : bk1 cX9_carLine 9 104 = true))
theorem oX9_carLine_10 : pm_okF cX9_carLine RX9 2 false 10 (s_is 1 11) := k_istore_n (dk_istore_n_1 (by decide +kernel : bk1 cX9_carLine 10 60 = true)) rfl (by decide)
theorem oX9_carLine_11 : pm_okF cX9_carLine RX9 2 false 11 (s_al 0 12) := k_aload_n (dk_aload_n_0 (by decide +kernel : bk1 cX9_carLine 11 42 = true)) rfl
theorem oX9_carLine_12 : pm_okF cX9_carLine RX9 2 false 12 (s_getf 9 18 15) := k_getf (C := RX9) (T := TX9) (N := 45) rfl inX9 (by decide) w_5_184 (dk_getfield (by decide +kernel : bk3 cX9_carLine 12 180 37 = true))
theorem oX9_carLine_15 : pm_okF cX9_carLine RX9 2 false 15 (s_il 1 16) := k_iload_n (dk_iload_n_1 (by decide +kernel : bk1 cX9_carLine 15 27 = true)) rfl
theorem oX9_carLine_16 : pm_okF cX9_carLine RX9 2 false 16 (s_al 0 17) := k_aload_n (dk_aload_n_0 (by decide +kernel : bk1 cX9_carLine 16 42 = true)) rfl
theorem oX9_carLine_17 : pm_okF cX9_carLine RX9 2 false 17 (s_const (.long 12253591) 20) := k_ldc2 (dk_ldc2_w (by decide +kernel : bk3 cX9_carLine 17 20 191 = true)) w_6_174
theorem oX9_carLine_20 : pm_okF cX9_carLine RX9 2 false 20 (s_const (.int 1) 21) := k_iconst (dk_iconst_1 (by decide +kernel : bk1 cX9_carLine 20 4 = true)) (by decide)
theorem oX9_carLine_21 : pm_okF cX9_carLine RX9 2 false 21 (s_al 0 22) := k_aload_n (dk_aload_n_0 (by decide +kernel : bk1 cX9_carLine 21 42 = true)) rfl
theorem oX9_carLine_22 : pm_okF cX9_carLine RX9 2 false 22 (s_const (.int 0) 23) := k_iconst (dk_iconst_0 (by decide +kernel : bk1 cX9_carLine 22 3 = true)) (by decide)
theorem oX9_carLine_23 : ∃ I : pm_M, pm_at pm_P 257 = some I ∧ I.2.2.2.2.2.1 = 0 ∧ I.2.2.2.2.2.2.1 = 0 ∧ pm_okC cX9_carLine RX9 2 false 23 I.1 I.2.1 I.2.2.1 I.2.2.2.1 2 (some 9) 0 0 := ⟨iX9_hasRead, aiX9_hasRead, rfl, rfl, k_callV (n := 1) (T := TX9) (N := 45) (dk_invokevirtual (by decide +kernel : bk3 cX9_carLine 23 182 174 = true)) rfl w_6_169 w_6_166 w_6_168 w_0_73 w_1_10 (by decide +kernel) (by decide) (by decide)⟩
theorem oX9_carLine_26 : ∃ I : pm_M, pm_at pm_P 317 = some I ∧ I.2.2.2.2.2.1 = 0 ∧ I.2.2.2.2.2.2.1 = 0 ∧ pm_okC cX9_carLine RX9 2 false 26 I.1 I.2.1 I.2.2.1 I.2.2.2.1 4 (some 9) 0 0 := ⟨iX9_number_, aiX9_number_, rfl, rfl, k_callV (n := 3) (T := TX9) (N := 45) (dk_invokevirtual (by decide +kernel : bk3 cX9_carLine 26 182 193 = true)) rfl w_6_154 w_6_151 w_6_153 w_0_70 w_1_10 (by decide +kernel) (by decide) (by decide)⟩
theorem oX9_carLine_29 : pm_okF cX9_carLine RX9 2 false 29 (s_iast 30) := k_iast (dk_iastore (by decide +kernel : bk1 cX9_carLine 29 79 = true))
theorem oX9_carLine_30 : pm_okF cX9_carLine RX9 2 false 30 (s_al 0 31) := k_aload_n (dk_aload_n_0 (by decide +kernel : bk1 cX9_carLine 30 42 = true)) rfl
theorem oX9_carLine_31 : pm_okF cX9_carLine RX9 2 false 31 (s_getf 9 18 34) := k_getf (C := RX9) (T := TX9) (N := 45) rfl inX9 (by decide) w_5_184 (dk_getfield (by decide +kernel : bk3 cX9_carLine 31 180 37 = true))
theorem oX9_carLine_34 : pm_okF cX9_carLine RX9 2 false 34 (s_il 1 35) := k_iload_n (dk_iload_n_1 (by decide +kernel : bk1 cX9_carLine 34 27 = true)) rfl
theorem oX9_carLine_35 : pm_okF cX9_carLine RX9 2 false 35 (s_const (.int 1) 36) := k_iconst (dk_iconst_1 (by decide +kernel : bk1 cX9_carLine 35 4 = true)) (by decide)
theorem oX9_carLine_36 : pm_okF cX9_carLine RX9 2 false 36 (s_bin (fun x y => x + y) 37) := k_iadd (dk_iadd (by decide +kernel : bk1 cX9_carLine 36 96 = true))
theorem oX9_carLine_37 : pm_okF cX9_carLine RX9 2 false 37 (s_al 0 38) := k_aload_n (dk_aload_n_0 (by decide +kernel : bk1 cX9_carLine 37 42 = true)) rfl
theorem oX9_carLine_38 : pm_okF cX9_carLine RX9 2 false 38 (s_const (.long 283288069) 41) := k_ldc2 (dk_ldc2_w (by decide +kernel : bk3 cX9_carLine 38 20 196 = true)) w_6_175
theorem oX9_carLine_41 : pm_okF cX9_carLine RX9 2 false 41 (s_const (.int 0) 42) := k_iconst (dk_iconst_0 (by decide +kernel : bk1 cX9_carLine 41 3 = true)) (by decide)
theorem oX9_carLine_42 : pm_okF cX9_carLine RX9 2 false 42 (s_const (.int 99) 44) := k_bipush (dk_bipush (by decide +kernel : bkB cX9_carLine 42 16 99 = true)) (by decide)
theorem oX9_carLine_44 : ∃ I : pm_M, pm_at pm_P 317 = some I ∧ I.2.2.2.2.2.1 = 0 ∧ I.2.2.2.2.2.2.1 = 0 ∧ pm_okC cX9_carLine RX9 2 false 44 I.1 I.2.1 I.2.2.1 I.2.2.2.1 4 (some 9) 0 0 := ⟨iX9_number_, aiX9_number_, rfl, rfl, k_callV (n := 3) (T := TX9) (N := 45) (dk_invokevirtual (by decide +kernel : bk3 cX9_carLine 44 182 193 = true)) rfl w_6_154 w_6_151 w_6_153 w_0_70 w_1_10 (by decide +kernel) (by decide) (by decide)⟩
theorem oX9_carLine_47 : pm_okF cX9_carLine RX9 2 false 47 (s_iast 48) := k_iast (dk_iastore (by decide +kernel : bk1 cX9_carLine 47 79 = true))
theorem oX9_carLine_48 : pm_okF cX9_carLine RX9 2 false 48 (s_al 0 49) := k_aload_n (dk_aload_n_0 (by decide +kernel : bk1 cX9_carLine 48 42 = true)) rfl
theorem oX9_carLine_49 : pm_okF cX9_carLine RX9 2 false 49 (s_const (.int 3) 50) := k_iconst (dk_iconst_3 (by decide +kernel : bk1 cX9_carLine 49 6 = true)) (by decide)
theorem oX9_carLine_50 : pm_okF cX9_carLine RX9 2 false 50 (s_al 0 51) := k_aload_n (dk_aload_n_0 (by decide +kernel : bk1 cX9_carLine 50 42 = true)) rfl
theorem oX9_carLine_51 : pm_okF cX9_carLine RX9 2 false 51 (s_const (.int 3) 52) := k_iconst (dk_iconst_3 (by decide +kernel : bk1 cX9_carLine 51 6 = true)) (by decide)
theorem oX9_carLine_52 : ∃ I : pm_M, pm_at pm_P 257 = some I ∧ I.2.2.2.2.2.1 = 0 ∧ I.2.2.2.2.2.2.1 = 0 ∧ pm_okC cX9_carLine RX9 2 false 52 I.1 I.2.1 I.2.2.1 I.2.2.2.1 2 (some 9) 0 0 := ⟨iX9_hasRead, aiX9_hasRead, rfl, rfl, k_callV (n := 1) (T := TX9) (N := 45) (dk_invokevirtual (by decide +kernel : bk3 cX9_carLine 52 182 174 = true)) rfl w_6_169 w_6_166 w_6_168 w_0_73 w_1_10 (by decide +kernel) (by decide) (by decide)⟩
theorem oX9_carLine_55 : pm_okF cX9_carLine RX9 2 false 55 (s_const (.int 1) 56) := k_iconst (dk_iconst_1 (by decide +kernel : bk1 cX9_carLine 55 4 = true)) (by decide)
theorem oX9_carLine_56 : pm_okF cX9_carLine RX9 2 false 56 (s_bin (fun x y => x + y) 57) := k_iadd (dk_iadd (by decide +kernel : bk1 cX9_carLine 56 96 = true))
theorem oX9_carLine_57 : ∃ I : pm_M, pm_at pm_P 359 = some I ∧ I.2.2.2.2.2.1 = 0 ∧ I.2.2.2.2.2.2.1 = 0 ∧ pm_okC cX9_carLine RX9 2 false 57 I.1 I.2.1 I.2.2.1 I.2.2.2.1 3 (some 9) 0 0 := ⟨iX9_tells, aiX9_tells, rfl, rfl, k_callV (n := 2) (T := TX9) (N := 45) (dk_invokevirtual (by decide +kernel : bk3 cX9_carLine 57 182 188 = true)) rfl w_6_111 w_6_108 w_6_110 w_0_61 w_1_10 (by decide +kernel) (by decide) (by decide)⟩
theorem oX9_carLine_60 : pm_okR cX9_carLine none 60 0 := ⟨rfl, (dk_return (by decide +kernel : bk1 cX9_carLine 60 177 = true))⟩
set_option maxRecDepth 20000 in
theorem oX9_carLine : pm_okM pm_P iX9_carLine := ⟨rfl, (fun h => by cases h), List.forall_mem_cons.mpr ⟨oX9_carLine_0, List.forall_mem_cons.mpr ⟨oX9_carLine_1, List.forall_mem_cons.mpr ⟨oX9_carLine_3, List.forall_mem_cons.mpr ⟨oX9_carLine_4, List.forall_mem_cons.mpr ⟨oX9_carLine_5, List.forall_mem_cons.mpr ⟨oX9_carLine_8, List.forall_mem_cons.mpr ⟨oX9_carLine_9, List.forall_mem_cons.mpr ⟨oX9_carLine_10, List.forall_mem_cons.mpr ⟨oX9_carLine_11, List.forall_mem_cons.mpr ⟨oX9_carLine_12, List.forall_mem_cons.mpr ⟨oX9_carLine_15, List.forall_mem_cons.mpr ⟨oX9_carLine_16, List.forall_mem_cons.mpr ⟨oX9_carLine_17, List.forall_mem_cons.mpr ⟨oX9_carLine_20, List.forall_mem_cons.mpr ⟨oX9_carLine_21, List.forall_mem_cons.mpr ⟨oX9_carLine_22, List.forall_mem_cons.mpr ⟨oX9_carLine_23, List.forall_mem_cons.mpr ⟨oX9_carLine_26, List.forall_mem_cons.mpr ⟨oX9_carLine_29, List.forall_mem_cons.mpr ⟨oX9_carLine_30, List.forall_mem_cons.mpr ⟨oX9_carLine_31, List.forall_mem_cons.mpr ⟨oX9_carLine_34, List.forall_mem_cons.mpr ⟨oX9_carLine_35, List.forall_mem_cons.mpr ⟨oX9_carLine_36, List.forall_mem_cons.mpr ⟨oX9_carLine_37, List.forall_mem_cons.mpr ⟨oX9_carLine_38, List.forall_mem_cons.mpr ⟨oX9_carLine_41, List.forall_mem_cons.mpr ⟨oX9_carLine_42, List.forall_mem_cons.mpr ⟨oX9_carLine_44, List.forall_mem_cons.mpr ⟨oX9_carLine_47, List.forall_mem_cons.mpr ⟨oX9_carLine_48, List.forall_mem_cons.mpr ⟨oX9_carLine_49, List.forall_mem_cons.mpr ⟨oX9_carLine_50, List.forall_mem_cons.mpr ⟨oX9_carLine_51, List.forall_mem_cons.mpr ⟨oX9_carLine_52, List.forall_mem_cons.mpr ⟨oX9_carLine_55, List.forall_mem_cons.mpr ⟨oX9_carLine_56, List.forall_mem_cons.mpr ⟨oX9_carLine_57, List.forall_mem_cons.mpr ⟨oX9_carLine_60, fun _ h => absurd h List.not_mem_nil⟩⟩⟩⟩⟩⟩⟩⟩⟩⟩⟩⟩⟩⟩⟩⟩⟩⟩⟩⟩⟩⟩⟩⟩⟩⟩⟩⟩⟩⟩⟩⟩⟩⟩⟩⟩⟩⟩⟩⟩
set_option maxRecDepth 20000 in
theorem oX9_cars : pm_okM pm_P iX9_cars := rows_M (kd := 1) rfl (fun h => by cases h) (abX9_cars w0) poRX9_g pcRX9_g rfl (by decide +kernel)
set_option maxRecDepth 20000 in
theorem oX9_chain : pm_okM pm_P iX9_chain := rows_M (kd := 1) rfl (fun h => by cases h) (abX9_chain w0) poRX9_g pcRX9_g rfl (by decide +kernel)
set_option maxRecDepth 20000 in
theorem oX9_chance : pm_okM pm_P iX9_chance := rows_M (kd := 1) rfl (fun h => by cases h) (abX9_chance w0) poRX9_g pcRX9_g rfl (by decide +kernel)
theorem oX9_clears_0 : pm_okF cX9_clears RX9 2 false 0 (s_al 0 1) := k_aload_n (dk_aload_n_0 (by decide +kernel : bk1 cX9_clears 0 42 = true)) rfl
theorem oX9_clears_1 : pm_okF cX9_clears RX9 2 false 1 (s_getf 9 16 4) := k_getf (C := RX9) (T := TX9) (N := 45) rfl inX9 (by decide) w_5_182 (dk_getfield (by decide +kernel : bk3 cX9_clears 1 180 31 = true))
theorem oX9_clears_4 : pm_okF cX9_clears RX9 2 false 4 (s_const (.int 4) 5) := k_iconst (dk_iconst_4 (by decide +kernel : bk1 cX9_clears 4 7 = true)) (by decide)
theorem oX9_clears_5 : pm_okF cX9_clears RX9 2 false 5 (s_const (.int 0) 6) := k_iconst (dk_iconst_0 (by decide +kernel : bk1 cX9_clears 5 3 = true)) (by decide)
theorem oX9_clears_6 : pm_okF cX9_clears RX9 2 false 6 (s_iast 7) := k_iast (dk_iastore (by decide +kernel : bk1 cX9_clears 6 79 = true))
theorem oX9_clears_7 : pm_okF cX9_clears RX9 2 false 7 (s_const (.int 0) 8) := k_iconst (dk_iconst_0 (by decide +kernel : bk1 cX9_clears 7 3 = true)) (by decide)
theorem oX9_clears_8 : pm_okF cX9_clears RX9 2 false 8 (s_is 1 9) := k_istore_n (dk_istore_n_1 (by decide +kernel : bk1 cX9_clears 8 60 = true)) rfl (by decide)
theorem oX9_clears_9 : pm_okF cX9_clears RX9 2 false 9 (s_il 1 10) := k_iload_n (dk_iload_n_1 (by decide +kernel : bk1 cX9_clears 9 27 = true)) rfl
theorem oX9_clears_10 : pm_okF cX9_clears RX9 2 false 10 (s_const (.int 6) 12) := k_bipush (dk_bipush (by decide +kernel : bkB cX9_clears 10 16 6 = true)) (by decide)
theorem oX9_clears_12 : pm_okF cX9_clears RX9 2 false 12 (s_icmp (fun x y => decide (y ≤ x)) 27 15) := k_icmp_ge (dk_if_icmp_ge (by decide +kernel : bkS cX9_clears 12 162 15 = true)) (by decide)
theorem oX9_clears_15 : pm_okF cX9_clears RX9 2 false 15 (s_al 0 16) := k_aload_n (dk_aload_n_0 (by decide +kernel : bk1 cX9_clears 15 42 = true)) rfl
theorem oX9_clears_16 : pm_okF cX9_clears RX9 2 false 16 (s_il 1 17) := k_iload_n (dk_iload_n_1 (by decide +kernel : bk1 cX9_clears 16 27 = true)) rfl
theorem oX9_clears_17 : pm_okF cX9_clears RX9 2 false 17 (s_const (.int 0) 18) := k_iconst (dk_iconst_0 (by decide +kernel : bk1 cX9_clears 17 3 = true)) (by decide)
theorem oX9_clears_18 : ∃ I : pm_M, pm_at pm_P 359 = some I ∧ I.2.2.2.2.2.1 = 0 ∧ I.2.2.2.2.2.2.1 = 0 ∧ pm_okC cX9_clears RX9 2 false 18 I.1 I.2.1 I.2.2.1 I.2.2.2.1 3 (some 9) 0 0 := ⟨iX9_tells, aiX9_tells, rfl, rfl, k_callV (n := 2) (T := TX9) (N := 45) (dk_invokevirtual (by decide +kernel : bk3 cX9_clears 18 182 188 = true)) rfl w_6_111 w_6_108 w_6_110 w_0_61 w_1_10 (by decide +kernel) (by decide) (by decide)⟩
theorem oX9_clears_21 : pm_okF cX9_clears RX9 2 false 21 (s_inc 1 1 24) := k_iinc (dk_iinc (by decide +kernel : bkI cX9_clears 21 132 1 1 = true)) (by decide) (by decide)
theorem oX9_clears_24 : pm_okF cX9_clears RX9 2 false 24 (s_goto 9) := k_goto (dk_goto (by decide +kernel : bkS cX9_clears 24 167 (-15) = true)) (by decide)
theorem oX9_clears_27 : pm_okR cX9_clears none 27 0 := ⟨rfl, (dk_return (by decide +kernel : bk1 cX9_clears 27 177 = true))⟩
set_option maxRecDepth 20000 in
theorem oX9_clears : pm_okM pm_P iX9_clears := ⟨rfl, (fun h => by cases h), List.forall_mem_cons.mpr ⟨oX9_clears_0, List.forall_mem_cons.mpr ⟨oX9_clears_1, List.forall_mem_cons.mpr ⟨oX9_clears_4, List.forall_mem_cons.mpr ⟨oX9_clears_5, List.forall_mem_cons.mpr ⟨oX9_clears_6, List.forall_mem_cons.mpr ⟨oX9_clears_7, List.forall_mem_cons.mpr ⟨oX9_clears_8, List.forall_mem_cons.mpr ⟨oX9_clears_9, List.forall_mem_cons.mpr ⟨oX9_clears_10, List.forall_mem_cons.mpr ⟨oX9_clears_12, List.forall_mem_cons.mpr ⟨oX9_clears_15, List.forall_mem_cons.mpr ⟨oX9_clears_16, List.forall_mem_cons.mpr ⟨oX9_clears_17, List.forall_mem_cons.mpr ⟨oX9_clears_18, List.forall_mem_cons.mpr ⟨oX9_clears_21, List.forall_mem_cons.mpr ⟨oX9_clears_24, List.forall_mem_cons.mpr ⟨oX9_clears_27, fun _ h => absurd h List.not_mem_nil⟩⟩⟩⟩⟩⟩⟩⟩⟩⟩⟩⟩⟩⟩⟩⟩⟩⟩
theorem oX9_closes_0 : pm_okF cX9_closes RX9 1 false 0 (s_al 0 1) := k_aload_n (dk_aload_n_0 (by decide +kernel : bk1 cX9_closes 0 42 = true)) rfl
theorem oX9_closes_1 : pm_okF cX9_closes RX9 1 false 1 (s_getf 9 8 4) := k_getf (C := RX9) (T := TX9) (N := 45) rfl inX9 (by decide) w_5_174 (dk_getfield (by decide +kernel : bk3 cX9_closes 1 180 133 = true))
theorem oX9_closes_4 : pm_okF cX9_closes RX9 1 false 4 (s_const (.int 3) 5) := k_iconst (dk_iconst_3 (by decide +kernel : bk1 cX9_closes 4 6 = true)) (by decide)
theorem oX9_closes_5 : pm_okF cX9_closes RX9 1 false 5 (s_icmp (fun x y => decide (x = y)) 13 8) := k_icmp_eq (dk_if_icmp_eq (by decide +kernel : bkS cX9_closes 5 159 8 = true)) (by decide)
theorem oX9_closes_8 : pm_okF cX9_closes RX9 1 false 8 (s_al 0 9) := k_aload_n (dk_aload_n_0 (by decide +kernel : bk1 cX9_closes 8 42 = true)) rfl
theorem oX9_closes_9 : pm_okF cX9_closes RX9 1 false 9 (s_const (.int 1) 10) := k_iconst (dk_iconst_1 (by decide +kernel : bk1 cX9_closes 9 4 = true)) (by decide)
theorem oX9_closes_10 : ∃ I : pm_M, pm_at pm_P 243 = some I ∧ I.2.2.2.2.2.1 = 0 ∧ I.2.2.2.2.2.2.1 = 0 ∧ pm_okC cX9_closes RX9 1 false 10 I.1 I.2.1 I.2.2.1 I.2.2.2.1 2 (some 9) 0 0 := ⟨iX9_fails, aiX9_fails, rfl, rfl, k_callV (n := 1) (T := TX9) (N := 45) (dk_invokevirtual (by decide +kernel : bk3 cX9_closes 10 182 160 = true)) rfl w_6_149 w_6_146 w_6_148 w_0_69 w_1_10 (by decide +kernel) (by decide) (by decide)⟩
theorem oX9_closes_13 : pm_okF cX9_closes RX9 1 false 13 (s_al 0 14) := k_aload_n (dk_aload_n_0 (by decide +kernel : bk1 cX9_closes 13 42 = true)) rfl
theorem oX9_closes_14 : pm_okF cX9_closes RX9 1 false 14 (s_getf 9 12 17) := k_getf (C := RX9) (T := TX9) (N := 45) rfl inX9 (by decide) w_5_178 (dk_getfield (by decide +kernel : bk3 cX9_closes 14 180 144 = true))
theorem oX9_closes_17 : pm_okF cX9_closes RX9 1 false 17 (s_if (fun x => decide (¬ x = 0)) 24 20) := k_if_ne (dk_ifCond_ne (by decide +kernel : bkS cX9_closes 17 154 7 = true)) (by decide)
theorem oX9_closes_20 : pm_okF cX9_closes RX9 1 false 20 (s_al 0 21) := k_aload_n (dk_aload_n_0 (by decide +kernel : bk1 cX9_closes 20 42 = true)) rfl
theorem oX9_closes_21 : ∃ I : pm_M, pm_at pm_P 251 = some I ∧ I.2.2.2.2.2.1 = 0 ∧ I.2.2.2.2.2.2.1 = 0 ∧ pm_okC cX9_closes RX9 1 false 21 I.1 I.2.1 I.2.2.1 I.2.2.2.1 1 (some 9) 0 0 := ⟨iX9_follows, aiX9_follows, rfl, rfl, k_callV (n := 0) (T := TX9) (N := 45) (dk_invokevirtual (by decide +kernel : bk3 cX9_closes 21 182 154 = true)) rfl w_6_119 w_6_116 w_6_118 w_0_63 w_1_10 (by decide +kernel) (by decide) (by decide)⟩
theorem oX9_closes_24 : pm_okR cX9_closes none 24 0 := ⟨rfl, (dk_return (by decide +kernel : bk1 cX9_closes 24 177 = true))⟩
set_option maxRecDepth 20000 in
theorem oX9_closes : pm_okM pm_P iX9_closes := ⟨rfl, (fun h => by cases h), List.forall_mem_cons.mpr ⟨oX9_closes_0, List.forall_mem_cons.mpr ⟨oX9_closes_1, List.forall_mem_cons.mpr ⟨oX9_closes_4, List.forall_mem_cons.mpr ⟨oX9_closes_5, List.forall_mem_cons.mpr ⟨oX9_closes_8, List.forall_mem_cons.mpr ⟨oX9_closes_9, List.forall_mem_cons.mpr ⟨oX9_closes_10, List.forall_mem_cons.mpr ⟨oX9_closes_13, List.forall_mem_cons.mpr ⟨oX9_closes_14, List.forall_mem_cons.mpr ⟨oX9_closes_17, List.forall_mem_cons.mpr ⟨oX9_closes_20, List.forall_mem_cons.mpr ⟨oX9_closes_21, List.forall_mem_cons.mpr ⟨oX9_closes_24, fun _ h => absurd h List.not_mem_nil⟩⟩⟩⟩⟩⟩⟩⟩⟩⟩⟩⟩⟩⟩
set_option maxRecDepth 20000 in
theorem oX9_code : pm_okM pm_P iX9_code := rows_M (kd := 1) rfl (fun h => by cases h) (abX9_code w0) poRX9_g pcRX9_g rfl (by decide +kernel)
set_option maxRecDepth 20000 in
theorem oX9_common : pm_okM pm_P iX9_common := rows_M (kd := 3) rfl (fun h => by cases h) (abX9_common w0) poRX9_g pcRX9_g rfl (by decide +kernel)
end
section
/-! the rows are sound (written by tab2.py) -/
set_option maxRecDepth 20000 in
theorem oX9_copyRow : pm_okM pm_P iX9_copyRow := rows_M (kd := 0) rfl (fun h => by cases h) (abX9_copyRow w0) poRX9_g pcRX9_g rfl (by decide +kernel)
set_option maxRecDepth 20000 in
theorem oX9_copyStreet : pm_okM pm_P iX9_copyStreet := rows_M (kd := 0) rfl (fun h => by cases h) (abX9_copyStreet w0) poRX9_g pcRX9_g rfl (by decide +kernel)
theorem oX9_count_0 : pm_okF cX9_count RX9 4 false 0 (s_al 0 1) := k_aload_n (dk_aload_n_0 (by decide +kernel : bk1 cX9_count 0 42 = true)) rfl
theorem oX9_count_1 : pm_okF cX9_count RX9 4 false 1 (s_const (.int 0) 2) := k_iconst (dk_iconst_0 (by decide +kernel : bk1 cX9_count 1 3 = true)) (by decide)
theorem oX9_count_2 : pm_okF cX9_count RX9 4 false 2 (s_putf 9 0 (.int) 5) := k_putf (C := RX9) (T := TX9) (N := 45) rfl inX9 tyX9_ok nmX9 (by decide) rfl rfl w_5_166 (dk_putfield (by decide +kernel : bk3 cX9_count 2 181 92 = true))
theorem oX9_count_5 : pm_okF cX9_count RX9 4 false 5 (s_il 1 6) := k_iload_n (dk_iload_n_1 (by decide +kernel : bk1 cX9_count 5 27 = true)) rfl
theorem oX9_count_6 : pm_okF cX9_count RX9 4 false 6 (s_i2l 7) := k_i2l (dk_i2l (by decide +kernel : bk1 cX9_count 6 133 = true))
theorem oX9_count_7 : pm_okF cX9_count RX9 4 false 7 (s_const (.long 0) 8) := k_lconst (dk_lconst_0 (by decide +kernel : bk1 cX9_count 7 9 = true)) (by decide)
theorem oX9_count_8 : pm_okF cX9_count RX9 4 false 8 (s_const (.long 5) 11) := k_ldc2 (dk_ldc2_w (by decide +kernel : bk3 cX9_count 8 20 371 = true)) w_8_15
theorem oX9_count_11 : ∃ I : pm_M, pm_at pm_P 261 = some I ∧ I.2.2.2.2.2.1 = 0 ∧ I.2.2.2.2.2.2.1 = 0 ∧ pm_okC cX9_count RX9 4 false 11 I.1 I.2.1 I.2.2.1 I.2.2.2.1 3 (none) 0 0 := ⟨iX9_in, aiX9_in, rfl, rfl, k_callS (n := 3) (dk_invokestatic (by decide +kernel : bk3 cX9_count 11 184 97 = true)) w_6_72 w_6_70 w_6_71 w_1_10 (by decide +kernel) (by decide)⟩
theorem oX9_count_14 : pm_okF cX9_count RX9 4 false 14 (s_if (fun x => decide (x = 0)) 24 17) := k_if_eq (dk_ifCond_eq (by decide +kernel : bkS cX9_count 14 153 10 = true)) (by decide)
theorem oX9_count_17 : pm_okF cX9_count RX9 4 false 17 (s_al 0 18) := k_aload_n (dk_aload_n_0 (by decide +kernel : bk1 cX9_count 17 42 = true)) rfl
theorem oX9_count_18 : pm_okF cX9_count RX9 4 false 18 (s_getf 9 17 21) := k_getf (C := RX9) (T := TX9) (N := 45) rfl inX9 (by decide) w_5_183 (dk_getfield (by decide +kernel : bk3 cX9_count 18 180 34 = true))
theorem oX9_count_21 : pm_okF cX9_count RX9 4 false 21 (s_il 1 22) := k_iload_n (dk_iload_n_1 (by decide +kernel : bk1 cX9_count 21 27 = true)) rfl
theorem oX9_count_22 : pm_okF cX9_count RX9 4 false 22 (s_iald 23) := k_iald (dk_iaload (by decide +kernel : bk1 cX9_count 22 46 = true))
theorem oX9_count_23 : pm_okR cX9_count (some .int) 23 1 := ⟨rfl, (dk_ireturn (by decide +kernel : bk1 cX9_count 23 172 = true))⟩
theorem oX9_count_24 : pm_okF cX9_count RX9 4 false 24 (s_const (.int 0) 25) := k_iconst (dk_iconst_0 (by decide +kernel : bk1 cX9_count 24 3 = true)) (by decide)
theorem oX9_count_25 : pm_okF cX9_count RX9 4 false 25 (s_is 2 26) := k_istore_n (dk_istore_n_2 (by decide +kernel : bk1 cX9_count 25 61 = true)) rfl (by decide)
theorem oX9_count_26 : pm_okF cX9_count RX9 4 false 26 (s_il 1 27) := k_iload_n (dk_iload_n_1 (by decide +kernel : bk1 cX9_count 26 27 = true)) rfl
theorem oX9_count_27 : pm_okF cX9_count RX9 4 false 27 (s_tsw 6 8 [52, 59, 64] 97) := k_tsw (by decide +kernel : decode cX9_count 27 = .ok (.tableswitch 70 6 8 #[25, 32, 37], 25)) (by decide) (by decide +kernel)
theorem oX9_count_52 : pm_okF cX9_count RX9 4 false 52 (s_al 0 53) := k_aload_n (dk_aload_n_0 (by decide +kernel : bk1 cX9_count 52 42 = true)) rfl
theorem oX9_count_53 : pm_okF cX9_count RX9 4 false 53 (s_getf 9 16 56) := k_getf (C := RX9) (T := TX9) (N := 45) rfl inX9 (by decide) w_5_182 (dk_getfield (by decide +kernel : bk3 cX9_count 53 180 31 = true))
theorem oX9_count_56 : pm_okF cX9_count RX9 4 false 56 (s_const (.int 0) 57) := k_iconst (dk_iconst_0 (by decide +kernel : bk1 cX9_count 56 3 = true)) (by decide)
theorem oX9_count_57 : pm_okF cX9_count RX9 4 false 57 (s_iald 58) := k_iald (dk_iaload (by decide +kernel : bk1 cX9_count 57 46 = true))
theorem oX9_count_58 : pm_okR cX9_count (some .int) 58 1 := ⟨rfl, (dk_ireturn (by decide +kernel : bk1 cX9_count 58 172 = true))⟩
theorem oX9_count_59 : pm_okF cX9_count RX9 4 false 59 (s_al 0 60) := k_aload_n (dk_aload_n_0 (by decide +kernel : bk1 cX9_count 59 42 = true)) rfl
theorem oX9_count_60 : pm_okF cX9_count RX9 4 false 60 (s_getf 9 6 63) := k_getf (C := RX9) (T := TX9) (N := 45) rfl inX9 (by decide) w_5_172 (dk_getfield (by decide +kernel : bk3 cX9_count 60 180 109 = true))
theorem oX9_count_63 : pm_okR cX9_count (some .int) 63 1 := ⟨rfl, (dk_ireturn (by decide +kernel : bk1 cX9_count 63 172 = true))⟩
theorem oX9_count_64 : pm_okF cX9_count RX9 4 false 64 (s_const (.int 0) 65) := k_iconst (dk_iconst_0 (by decide +kernel : bk1 cX9_count 64 3 = true)) (by decide)
theorem oX9_count_65 : pm_okF cX9_count RX9 4 false 65 (s_is 3 66) := k_istore_n (dk_istore_n_3 (by decide +kernel : bk1 cX9_count 65 62 = true)) rfl (by decide)
theorem oX9_count_66 : pm_okF cX9_count RX9 4 false 66 (s_il 3 67) := k_iload_n (dk_iload_n_3 (by decide +kernel : bk1 cX9_count 66 29 = true)) rfl
theorem oX9_count_67 : pm_okF cX9_count RX9 4 false 67 (s_const (.int 4) 68) := k_iconst (dk_iconst_4 (by decide +kernel : bk1 cX9_count 67 7 = true)) (by decide)
theorem oX9_count_68 : pm_okF cX9_count RX9 4 false 68 (s_icmp (fun x y => decide (y ≤ x)) 95 71) := k_icmp_ge (dk_if_icmp_ge (by decide +kernel : bkS cX9_count 68 162 27 = true)) (by decide)
theorem oX9_count_71 : pm_okF cX9_count RX9 4 false 71 (s_il 2 72) := k_iload_n (dk_iload_n_2 (by decide +kernel : bk1 cX9_count 71 28 = true)) rfl
theorem oX9_count_72 : pm_okF cX9_count RX9 4 false 72 (s_al 0 73) := k_aload_n (dk_aload_n_0 (by decide +kernel : bk1 cX9_count 72 42 = true)) rfl
theorem oX9_count_73 : pm_okF cX9_count RX9 4 false 73 (s_getf 9 1 76) := k_getf (C := RX9) (T := TX9) (N := 45) rfl inX9 (by decide) w_5_167 (dk_getfield (by decide +kernel : bk3 cX9_count 73 180 7 = true))
theorem oX9_count_76 : pm_okF cX9_count RX9 4 false 76 (s_il 3 77) := k_iload_n (dk_iload_n_3 (by decide +kernel : bk1 cX9_count 76 29 = true)) rfl
theorem oX9_count_77 : pm_okF cX9_count RX9 4 false 77 (s_iald 78) := k_iald (dk_iaload (by decide +kernel : bk1 cX9_count 77 46 = true))
theorem oX9_count_78 : pm_okF cX9_count RX9 4 false 78 (s_const (.int (-1)) 79) := k_iconst (dk_iconst_m (by decide +kernel : bk1 cX9_count 78 2 = true)) (by decide)
theorem oX9_count_79 : pm_okF cX9_count RX9 4 false 79 (s_icmp (fun x y => decide (¬ x = y)) 86 82) := k_icmp_ne (dk_if_icmp_ne (by decide +kernel : bkS cX9_count 79 160 7 = true)) (by decide)
theorem oX9_count_82 : pm_okF cX9_count RX9 4 false 82 (s_const (.int 0) 83) := k_iconst (dk_iconst_0 (by decide +kernel : bk1 cX9_count 82 3 = true)) (by decide)
theorem oX9_count_83 : pm_okF cX9_count RX9 4 false 83 (s_goto 87) := k_goto (dk_goto (by decide +kernel : bkS cX9_count 83 167 4 = true)) (by decide)
theorem oX9_count_86 : pm_okF cX9_count RX9 4 false 86 (s_const (.int 1) 87) := k_iconst (dk_iconst_1 (by decide +kernel : bk1 cX9_count 86 4 = true)) (by decide)
theorem oX9_count_87 : pm_okF cX9_count RX9 4 false 87 (s_bin (fun x y => x + y) 88) := k_iadd (dk_iadd (by decide +kernel : bk1 cX9_count 87 96 = true))
theorem oX9_count_88 : pm_okF cX9_count RX9 4 false 88 (s_is 2 89) := k_istore_n (dk_istore_n_2 (by decide +kernel : bk1 cX9_count 88 61 = true)) rfl (by decide)
theorem oX9_count_89 : pm_okF cX9_count RX9 4 false 89 (s_inc 3 1 92) := k_iinc (dk_iinc (by decide +kernel : bkI cX9_count 89 132 3 1 = true)) (by decide) (by decide)
theorem oX9_count_92 : pm_okF cX9_count RX9 4 false 92 (s_goto 66) := k_goto (dk_goto (by decide +kernel : bkS cX9_count 92 167 (-26) = true)) (by decide)
theorem oX9_count_95 : pm_okF cX9_count RX9 4 false 95 (s_il 2 96) := k_iload_n (dk_iload_n_2 (by decide +kernel : bk1 cX9_count 95 28 = true)) rfl
theorem oX9_count_96 : pm_okR cX9_count (some .int) 96 1 := ⟨rfl, (dk_ireturn (by decide +kernel : bk1 cX9_count 96 172 = true))⟩
theorem oX9_count_97 : pm_okF cX9_count RX9 4 false 97 (s_const (.int (-1)) 98) := k_iconst (dk_iconst_m (by decide +kernel : bk1 cX9_count 97 2 = true)) (by decide)
theorem oX9_count_98 : pm_okR cX9_count (some .int) 98 1 := ⟨rfl, (dk_ireturn (by decide +kernel : bk1 cX9_count 98 172 = true))⟩
set_option maxRecDepth 20000 in
theorem oX9_count : pm_okM pm_P iX9_count := ⟨rfl, (fun h => by cases h), List.forall_mem_cons.mpr ⟨oX9_count_0, List.forall_mem_cons.mpr ⟨oX9_count_1, List.forall_mem_cons.mpr ⟨oX9_count_2, List.forall_mem_cons.mpr ⟨oX9_count_5, List.forall_mem_cons.mpr ⟨oX9_count_6, List.forall_mem_cons.mpr ⟨oX9_count_7, List.forall_mem_cons.mpr ⟨oX9_count_8, List.forall_mem_cons.mpr ⟨oX9_count_11, List.forall_mem_cons.mpr ⟨oX9_count_14, List.forall_mem_cons.mpr ⟨oX9_count_17, List.forall_mem_cons.mpr ⟨oX9_count_18, List.forall_mem_cons.mpr ⟨oX9_count_21, List.forall_mem_cons.mpr ⟨oX9_count_22, List.forall_mem_cons.mpr ⟨oX9_count_23, List.forall_mem_cons.mpr ⟨oX9_count_24, List.forall_mem_cons.mpr ⟨oX9_count_25, List.forall_mem_cons.mpr ⟨oX9_count_26, List.forall_mem_cons.mpr ⟨oX9_count_27, List.forall_mem_cons.mpr ⟨oX9_count_52, List.forall_mem_cons.mpr ⟨oX9_count_53, List.forall_mem_cons.mpr ⟨oX9_count_56, List.forall_mem_cons.mpr ⟨oX9_count_57, List.forall_mem_cons.mpr ⟨oX9_count_58, List.forall_mem_cons.mpr ⟨oX9_count_59, List.forall_mem_cons.mpr ⟨oX9_count_60, List.forall_mem_cons.mpr ⟨oX9_count_63, List.forall_mem_cons.mpr ⟨oX9_count_64, List.forall_mem_cons.mpr ⟨oX9_count_65, List.forall_mem_cons.mpr ⟨oX9_count_66, List.forall_mem_cons.mpr ⟨oX9_count_67, List.forall_mem_cons.mpr ⟨oX9_count_68, List.forall_mem_cons.mpr ⟨oX9_count_71, List.forall_mem_cons.mpr ⟨oX9_count_72, List.forall_mem_cons.mpr ⟨oX9_count_73, List.forall_mem_cons.mpr ⟨oX9_count_76, List.forall_mem_cons.mpr ⟨oX9_count_77, List.forall_mem_cons.mpr ⟨oX9_count_78, List.forall_mem_cons.mpr ⟨oX9_count_79, List.forall_mem_cons.mpr ⟨oX9_count_82, List.forall_mem_cons.mpr ⟨oX9_count_83, List.forall_mem_cons.mpr ⟨oX9_count_86, List.forall_mem_cons.mpr ⟨oX9_count_87, List.forall_mem_cons.mpr ⟨oX9_count_88, List.forall_mem_cons.mpr ⟨oX9_count_89, List.forall_mem_cons.mpr ⟨oX9_count_92, List.forall_mem_cons.mpr ⟨oX9_count_95, List.forall_mem_cons.mpr ⟨oX9_count_96, List.forall_mem_cons.mpr ⟨oX9_count_97, List.forall_mem_cons.mpr ⟨oX9_count_98, fun _ h => absurd h List.not_mem_nil⟩⟩⟩⟩⟩⟩⟩⟩⟩⟩⟩⟩⟩⟩⟩⟩⟩⟩⟩⟩⟩⟩⟩⟩⟩⟩⟩⟩⟩⟩⟩⟩⟩⟩⟩⟩⟩⟩⟩⟩⟩⟩⟩⟩⟩⟩⟩⟩⟩⟩
set_option maxRecDepth 20000 in
theorem oX9_counts0 : pm_okM pm_P iX9_counts0 := rows_M (kd := 0) rfl (fun h => by cases h) (abX9_counts0 w0) poRX9_g pcRX9_g rfl (by decide +kernel)
set_option maxRecDepth 20000 in
theorem oX9_crossed : pm_okM pm_P iX9_crossed := rows_M (kd := 1) rfl (fun h => by cases h) (abX9_crossed w0) poRX9_g pcRX9_g rfl (by decide +kernel)
set_option maxRecDepth 20000 in
theorem oX9_cut : pm_okM pm_P iX9_cut := rows_M (kd := 3) rfl (fun h => by cases h) (abX9_cut w0) poRX9_g pcRX9_g rfl (by decide +kernel)
theorem oX9_depth_0 : pm_okF cX9_depth RX9 4 false 0 (s_al 0 1) := k_aload_n (dk_aload_n_0 (by decide +kernel : bk1 cX9_depth 0 42 = true)) rfl
theorem oX9_depth_1 : pm_okF cX9_depth RX9 4 false 1 (s_const (.int 0) 2) := k_iconst (dk_iconst_0 (by decide +kernel : bk1 cX9_depth 1 3 = true)) (by decide)
theorem oX9_depth_2 : pm_okF cX9_depth RX9 4 false 2 (s_putf 9 0 (.int) 5) := k_putf (C := RX9) (T := TX9) (N := 45) rfl inX9 tyX9_ok nmX9 (by decide) rfl rfl w_5_166 (dk_putfield (by decide +kernel : bk3 cX9_depth 2 181 92 = true))
theorem oX9_depth_5 : pm_okF cX9_depth RX9 4 false 5 (s_al 0 6) := k_aload_n (dk_aload_n_0 (by decide +kernel : bk1 cX9_depth 5 42 = true)) rfl
theorem oX9_depth_6 : pm_okF cX9_depth RX9 4 false 6 (s_il 1 7) := k_iload_n (dk_iload_n_1 (by decide +kernel : bk1 cX9_depth 6 27 = true)) rfl
theorem oX9_depth_7 : pm_okF cX9_depth RX9 4 false 7 (s_i2l 8) := k_i2l (dk_i2l (by decide +kernel : bk1 cX9_depth 7 133 = true))
theorem oX9_depth_8 : ∃ I : pm_M, pm_at pm_P 267 = some I ∧ I.2.2.2.2.2.1 = 0 ∧ I.2.2.2.2.2.2.1 = 0 ∧ pm_okC cX9_depth RX9 4 false 8 I.1 I.2.1 I.2.2.1 I.2.2.2.1 2 (some 9) 0 0 := ⟨iX9_isCar, aiX9_isCar, rfl, rfl, k_callV (n := 1) (T := TX9) (N := 45) (dk_invokevirtual (by decide +kernel : bk3 cX9_depth 8 182 252 = true)) rfl w_6_225 w_6_222 w_6_224 w_0_83 w_1_10 (by decide +kernel) (by decide) (by decide)⟩
theorem oX9_depth_11 : pm_okF cX9_depth RX9 4 false 11 (s_if (fun x => decide (¬ x = 0)) 17 14) := k_if_ne (dk_ifCond_ne (by decide +kernel : bkS cX9_depth 11 154 6 = true)) (by decide)
theorem oX9_depth_14 : pm_okF cX9_depth RX9 4 false 14 (s_const (.int (-2)) 16) := k_bipush (dk_bipush (by decide +kernel : bkB cX9_depth 14 16 (-2) = true)) (by decide)
theorem oX9_depth_16 : pm_okR cX9_depth (some .int) 16 1 := ⟨rfl, (dk_ireturn (by decide +kernel : bk1 cX9_depth 16 172 = true))⟩
theorem oX9_depth_17 : pm_okF cX9_depth RX9 4 false 17 (s_al 0 18) := k_aload_n (dk_aload_n_0 (by decide +kernel : bk1 cX9_depth 17 42 = true)) rfl
theorem oX9_depth_18 : ∃ I : pm_M, pm_at pm_P 293 = some I ∧ I.2.2.2.2.2.1 = 0 ∧ I.2.2.2.2.2.2.1 = 0 ∧ pm_okC cX9_depth RX9 4 false 18 I.1 I.2.1 I.2.2.1 I.2.2.2.1 1 (some 9) 0 0 := ⟨iX9_lays, aiX9_lays, rfl, rfl, k_callV (n := 0) (T := TX9) (N := 45) (dk_invokevirtual (by decide +kernel : bk3 cX9_depth 18 182 280 = true)) rfl w_6_236 w_6_233 w_6_235 w_0_85 w_1_10 (by decide +kernel) (by decide) (by decide)⟩
theorem oX9_depth_21 : pm_okF cX9_depth RX9 4 false 21 (s_al 0 22) := k_aload_n (dk_aload_n_0 (by decide +kernel : bk1 cX9_depth 21 42 = true)) rfl
theorem oX9_depth_22 : ∃ I : pm_M, pm_at pm_P 272 = some I ∧ I.2.2.2.2.2.1 = 0 ∧ I.2.2.2.2.2.2.1 = 0 ∧ pm_okC cX9_depth RX9 4 false 22 I.1 I.2.1 I.2.2.1 I.2.2.2.1 1 (some 9) 0 0 := ⟨iX9_isLawful, aiX9_isLawful, rfl, rfl, k_callV (n := 0) (T := TX9) (N := 45) (dk_invokevirtual (by decide +kernel : bk3 cX9_depth 22 182 307 = true)) rfl w_7_98 w_7_95 w_7_97 w_0_98 w_1_10 (by decide +kernel) (by decide) (by decide)⟩
theorem oX9_depth_25 : pm_okF cX9_depth RX9 4 false 25 (s_if (fun x => decide (¬ x = 0)) 30 28) := k_if_ne (dk_ifCond_ne (by decide +kernel : bkS cX9_depth 25 154 5 = true)) (by decide)
theorem oX9_depth_28 : pm_okF cX9_depth RX9 4 false 28 (s_const (.int (-1)) 29) := k_iconst (dk_iconst_m (by decide +kernel : bk1 cX9_depth 28 2 = true)) (by decide)
theorem oX9_depth_29 : pm_okR cX9_depth (some .int) 29 1 := ⟨rfl, (dk_ireturn (by decide +kernel : bk1 cX9_depth 29 172 = true))⟩
theorem oX9_depth_30 : pm_okF cX9_depth RX9 4 false 30 (s_al 0 31) := k_aload_n (dk_aload_n_0 (by decide +kernel : bk1 cX9_depth 30 42 = true)) rfl
theorem oX9_depth_31 : ∃ I : pm_M, pm_at pm_P 299 = some I ∧ I.2.2.2.2.2.1 = 0 ∧ I.2.2.2.2.2.2.1 = 0 ∧ pm_okC cX9_depth RX9 4 false 31 I.1 I.2.1 I.2.2.1 I.2.2.2.1 1 (some 9) 0 0 := ⟨iX9_laysTree, aiX9_laysTree, rfl, rfl, k_callV (n := 0) (T := TX9) (N := 45) (dk_invokevirtual (by decide +kernel : bk3 cX9_depth 31 182 316 = true)) rfl w_7_142 w_7_139 w_7_141 w_0_101 w_1_10 (by decide +kernel) (by decide) (by decide)⟩
theorem oX9_depth_34 : pm_okF cX9_depth RX9 4 false 34 (s_const (.int 0) 35) := k_iconst (dk_iconst_0 (by decide +kernel : bk1 cX9_depth 34 3 = true)) (by decide)
theorem oX9_depth_35 : pm_okF cX9_depth RX9 4 false 35 (s_is 2 36) := k_istore_n (dk_istore_n_2 (by decide +kernel : bk1 cX9_depth 35 61 = true)) rfl (by decide)
theorem oX9_depth_36 : pm_okF cX9_depth RX9 4 false 36 (s_il 1 37) := k_iload_n (dk_iload_n_1 (by decide +kernel : bk1 cX9_depth 36 27 = true)) rfl
theorem oX9_depth_37 : pm_okF cX9_depth RX9 4 false 37 (s_const (.int 1) 38) := k_iconst (dk_iconst_1 (by decide +kernel : bk1 cX9_depth 37 4 = true)) (by decide)
theorem oX9_depth_38 : pm_okF cX9_depth RX9 4 false 38 (s_bin (fun x y => x + y) 39) := k_iadd (dk_iadd (by decide +kernel : bk1 cX9_depth 38 96 = true))
theorem oX9_depth_39 : pm_okF cX9_depth RX9 4 false 39 (s_is 3 40) := k_istore_n (dk_istore_n_3 (by decide +kernel : bk1 cX9_depth 39 62 = true)) rfl (by decide)
theorem oX9_depth_40 : pm_okF cX9_depth RX9 4 false 40 (s_il 3 41) := k_iload_n (dk_iload_n_3 (by decide +kernel : bk1 cX9_depth 40 29 = true)) rfl
theorem oX9_depth_41 : pm_okF cX9_depth RX9 4 false 41 (s_if (fun x => decide (x = 0)) 57 44) := k_if_eq (dk_ifCond_eq (by decide +kernel : bkS cX9_depth 41 153 16 = true)) (by decide)
theorem oX9_depth_44 : pm_okF cX9_depth RX9 4 false 44 (s_inc 2 1 47) := k_iinc (dk_iinc (by decide +kernel : bkI cX9_depth 44 132 2 1 = true)) (by decide) (by decide)
theorem oX9_depth_47 : pm_okF cX9_depth RX9 4 false 47 (s_al 0 48) := k_aload_n (dk_aload_n_0 (by decide +kernel : bk1 cX9_depth 47 42 = true)) rfl
theorem oX9_depth_48 : pm_okF cX9_depth RX9 4 false 48 (s_getf 9 28 51) := k_getf (C := RX9) (T := TX9) (N := 45) rfl inX9 (by decide) w_5_194 (dk_getfield (by decide +kernel : bk3 cX9_depth 48 180 59 = true))
theorem oX9_depth_51 : pm_okF cX9_depth RX9 4 false 51 (s_il 3 52) := k_iload_n (dk_iload_n_3 (by decide +kernel : bk1 cX9_depth 51 29 = true)) rfl
theorem oX9_depth_52 : pm_okF cX9_depth RX9 4 false 52 (s_iald 53) := k_iald (dk_iaload (by decide +kernel : bk1 cX9_depth 52 46 = true))
theorem oX9_depth_53 : pm_okF cX9_depth RX9 4 false 53 (s_is 3 54) := k_istore_n (dk_istore_n_3 (by decide +kernel : bk1 cX9_depth 53 62 = true)) rfl (by decide)
theorem oX9_depth_54 : pm_okF cX9_depth RX9 4 false 54 (s_goto 40) := k_goto (dk_goto (by decide +kernel : bkS cX9_depth 54 167 (-14) = true)) (by decide)
theorem oX9_depth_57 : pm_okF cX9_depth RX9 4 false 57 (s_il 2 58) := k_iload_n (dk_iload_n_2 (by decide +kernel : bk1 cX9_depth 57 28 = true)) rfl
theorem oX9_depth_58 : pm_okR cX9_depth (some .int) 58 1 := ⟨rfl, (dk_ireturn (by decide +kernel : bk1 cX9_depth 58 172 = true))⟩
set_option maxRecDepth 20000 in
theorem oX9_depth : pm_okM pm_P iX9_depth := ⟨rfl, (fun h => by cases h), List.forall_mem_cons.mpr ⟨oX9_depth_0, List.forall_mem_cons.mpr ⟨oX9_depth_1, List.forall_mem_cons.mpr ⟨oX9_depth_2, List.forall_mem_cons.mpr ⟨oX9_depth_5, List.forall_mem_cons.mpr ⟨oX9_depth_6, List.forall_mem_cons.mpr ⟨oX9_depth_7, List.forall_mem_cons.mpr ⟨oX9_depth_8, List.forall_mem_cons.mpr ⟨oX9_depth_11, List.forall_mem_cons.mpr ⟨oX9_depth_14, List.forall_mem_cons.mpr ⟨oX9_depth_16, List.forall_mem_cons.mpr ⟨oX9_depth_17, List.forall_mem_cons.mpr ⟨oX9_depth_18, List.forall_mem_cons.mpr ⟨oX9_depth_21, List.forall_mem_cons.mpr ⟨oX9_depth_22, List.forall_mem_cons.mpr ⟨oX9_depth_25, List.forall_mem_cons.mpr ⟨oX9_depth_28, List.forall_mem_cons.mpr ⟨oX9_depth_29, List.forall_mem_cons.mpr ⟨oX9_depth_30, List.forall_mem_cons.mpr ⟨oX9_depth_31, List.forall_mem_cons.mpr ⟨oX9_depth_34, List.forall_mem_cons.mpr ⟨oX9_depth_35, List.forall_mem_cons.mpr ⟨oX9_depth_36, List.forall_mem_cons.mpr ⟨oX9_depth_37, List.forall_mem_cons.mpr ⟨oX9_depth_38, List.forall_mem_cons.mpr ⟨oX9_depth_39, List.forall_mem_cons.mpr ⟨oX9_depth_40, List.forall_mem_cons.mpr ⟨oX9_depth_41, List.forall_mem_cons.mpr ⟨oX9_depth_44, List.forall_mem_cons.mpr ⟨oX9_depth_47, List.forall_mem_cons.mpr ⟨oX9_depth_48, List.forall_mem_cons.mpr ⟨oX9_depth_51, List.forall_mem_cons.mpr ⟨oX9_depth_52, List.forall_mem_cons.mpr ⟨oX9_depth_53, List.forall_mem_cons.mpr ⟨oX9_depth_54, List.forall_mem_cons.mpr ⟨oX9_depth_57, List.forall_mem_cons.mpr ⟨oX9_depth_58, fun _ h => absurd h List.not_mem_nil⟩⟩⟩⟩⟩⟩⟩⟩⟩⟩⟩⟩⟩⟩⟩⟩⟩⟩⟩⟩⟩⟩⟩⟩⟩⟩⟩⟩⟩⟩⟩⟩⟩⟩⟩⟩⟩
set_option maxRecDepth 20000 in
theorem oX9_does : pm_okM pm_P iX9_does := rows_M (kd := 1) rfl (fun h => by cases h) (abX9_does w0) poRX9_g pcRX9_g rfl (by decide +kernel)
set_option maxRecDepth 20000 in
theorem oX9_drawn : pm_okM pm_P iX9_drawn := rows_M (kd := 1) rfl (fun h => by cases h) (abX9_drawn w0) poRX9_g pcRX9_g rfl (by decide +kernel)
set_option maxRecDepth 20000 in
theorem oX9_draws : pm_okM pm_P iX9_draws := rows_M (kd := 0) rfl (fun h => by cases h) (abX9_draws w0) poRX9_g pcRX9_g rfl (by decide +kernel)
set_option maxRecDepth 20000 in
theorem oX9_end : pm_okM pm_P iX9_end := rows_M (kd := 1) rfl (fun h => by cases h) (abX9_end w0) poRX9_g pcRX9_g rfl (by decide +kernel)
set_option maxRecDepth 20000 in
theorem oX9_ends : pm_okM pm_P iX9_ends := rows_M (kd := 1) rfl (fun h => by cases h) (abX9_ends w0) poRX9_g pcRX9_g rfl (by decide +kernel)
theorem oX9_fails_0 : pm_okF cX9_fails RX9 2 false 0 (s_al 0 1) := k_aload_n (dk_aload_n_0 (by decide +kernel : bk1 cX9_fails 0 42 = true)) rfl
theorem oX9_fails_1 : pm_okF cX9_fails RX9 2 false 1 (s_getf 9 12 4) := k_getf (C := RX9) (T := TX9) (N := 45) rfl inX9 (by decide) w_5_178 (dk_getfield (by decide +kernel : bk3 cX9_fails 1 180 144 = true))
theorem oX9_fails_4 : pm_okF cX9_fails RX9 2 false 4 (s_if (fun x => decide (x = 0)) 8 7) := k_if_eq (dk_ifCond_eq (by decide +kernel : bkS cX9_fails 4 153 4 = true)) (by decide)
theorem oX9_fails_7 : pm_okR cX9_fails none 7 0 := ⟨rfl, (dk_return (by decide +kernel : bk1 cX9_fails 7 177 = true))⟩
theorem oX9_fails_8 : pm_okF cX9_fails RX9 2 false 8 (s_al 0 9) := k_aload_n (dk_aload_n_0 (by decide +kernel : bk1 cX9_fails 8 42 = true)) rfl
theorem oX9_fails_9 : pm_okF cX9_fails RX9 2 false 9 (s_il 1 10) := k_iload_n (dk_iload_n_1 (by decide +kernel : bk1 cX9_fails 9 27 = true)) rfl
theorem oX9_fails_10 : pm_okF cX9_fails RX9 2 false 10 (s_putf 9 12 (.int) 13) := k_putf (C := RX9) (T := TX9) (N := 45) rfl inX9 tyX9_ok nmX9 (by decide) rfl rfl w_5_178 (dk_putfield (by decide +kernel : bk3 cX9_fails 10 181 144 = true))
theorem oX9_fails_13 : pm_okF cX9_fails RX9 2 false 13 (s_al 0 14) := k_aload_n (dk_aload_n_0 (by decide +kernel : bk1 cX9_fails 13 42 = true)) rfl
theorem oX9_fails_14 : pm_okF cX9_fails RX9 2 false 14 (s_al 0 15) := k_aload_n (dk_aload_n_0 (by decide +kernel : bk1 cX9_fails 14 42 = true)) rfl
theorem oX9_fails_15 : pm_okF cX9_fails RX9 2 false 15 (s_getf 9 9 18) := k_getf (C := RX9) (T := TX9) (N := 45) rfl inX9 (by decide) w_5_175 (dk_getfield (by decide +kernel : bk3 cX9_fails 15 180 123 = true))
theorem oX9_fails_18 : pm_okF cX9_fails RX9 2 false 18 (s_putf 9 13 (.int) 21) := k_putf (C := RX9) (T := TX9) (N := 45) rfl inX9 tyX9_ok nmX9 (by decide) rfl rfl w_5_179 (dk_putfield (by decide +kernel : bk3 cX9_fails 18 181 147 = true))
theorem oX9_fails_21 : pm_okR cX9_fails none 21 0 := ⟨rfl, (dk_return (by decide +kernel : bk1 cX9_fails 21 177 = true))⟩
set_option maxRecDepth 20000 in
theorem oX9_fails : pm_okM pm_P iX9_fails := ⟨rfl, (fun h => by cases h), List.forall_mem_cons.mpr ⟨oX9_fails_0, List.forall_mem_cons.mpr ⟨oX9_fails_1, List.forall_mem_cons.mpr ⟨oX9_fails_4, List.forall_mem_cons.mpr ⟨oX9_fails_7, List.forall_mem_cons.mpr ⟨oX9_fails_8, List.forall_mem_cons.mpr ⟨oX9_fails_9, List.forall_mem_cons.mpr ⟨oX9_fails_10, List.forall_mem_cons.mpr ⟨oX9_fails_13, List.forall_mem_cons.mpr ⟨oX9_fails_14, List.forall_mem_cons.mpr ⟨oX9_fails_15, List.forall_mem_cons.mpr ⟨oX9_fails_18, List.forall_mem_cons.mpr ⟨oX9_fails_21, fun _ h => absurd h List.not_mem_nil⟩⟩⟩⟩⟩⟩⟩⟩⟩⟩⟩⟩⟩
set_option maxRecDepth 20000 in
theorem oX9_far : pm_okM pm_P iX9_far := rows_M (kd := 1) rfl (fun h => by cases h) (abX9_far w0) poRX9_g pcRX9_g rfl (by decide +kernel)
set_option maxRecDepth 20000 in
theorem oX9_far0 : pm_okM pm_P iX9_far0 := rows_M (kd := 1) rfl (fun h => by cases h) (abX9_far0 w0) poRX9_g pcRX9_g rfl (by decide +kernel)
set_option maxRecDepth 20000 in
theorem oX9_fault : pm_okM pm_P iX9_fault := rows_M (kd := 1) rfl (fun h => by cases h) (abX9_fault w0) poRX9_g pcRX9_g rfl (by decide +kernel)
set_option maxRecDepth 20000 in
theorem oX9_feed : pm_okM pm_P iX9_feed := rows_M (kd := 1) rfl (fun h => by cases h) (abX9_feed w0) poRX9_g pcRX9_g rfl (by decide +kernel)
set_option maxRecDepth 20000 in
theorem oX9_fences : pm_okM pm_P iX9_fences := rows_M (kd := 1) rfl (fun h => by cases h) (abX9_fences w0) poRX9_g pcRX9_g rfl (by decide +kernel)
set_option maxRecDepth 20000 in
theorem oX9_findsBy : pm_okM pm_P iX9_findsBy := rows_M (kd := 1) rfl (fun h => by cases h) (abX9_findsBy w0) poRX9_g pcRX9_g rfl (by decide +kernel)
set_option maxRecDepth 20000 in
theorem oX9_fits : pm_okM pm_P iX9_fits := rows_M (kd := 1) rfl (fun h => by cases h) (abX9_fits w0) poRX9_g pcRX9_g rfl (by decide +kernel)
theorem oX9_follows_0 : pm_okF cX9_follows RX9 2 false 0 (s_al 0 1) := k_aload_n (dk_aload_n_0 (by decide +kernel : bk1 cX9_follows 0 42 = true)) rfl
theorem oX9_follows_1 : pm_okF cX9_follows RX9 2 false 1 (s_al 0 2) := k_aload_n (dk_aload_n_0 (by decide +kernel : bk1 cX9_follows 1 42 = true)) rfl
theorem oX9_follows_2 : pm_okF cX9_follows RX9 2 false 2 (s_getf 9 7 5) := k_getf (C := RX9) (T := TX9) (N := 45) rfl inX9 (by decide) w_5_173 (dk_getfield (by decide +kernel : bk3 cX9_follows 2 180 116 = true))
theorem oX9_follows_5 : pm_okF cX9_follows RX9 2 false 5 (s_const (.int 32) 7) := k_bipush (dk_bipush (by decide +kernel : bkB cX9_follows 5 16 32 = true)) (by decide)
theorem oX9_follows_7 : pm_okF cX9_follows RX9 2 false 7 (s_const (.int 32) 9) := k_bipush (dk_bipush (by decide +kernel : bkB cX9_follows 7 16 32 = true)) (by decide)
theorem oX9_follows_9 : ∃ I : pm_M, pm_at pm_P 266 = some I ∧ I.2.2.2.2.2.1 = 0 ∧ I.2.2.2.2.2.2.1 = 0 ∧ pm_okC cX9_follows RX9 2 false 9 I.1 I.2.1 I.2.2.1 I.2.2.2.1 4 (some 9) 0 0 := ⟨iX9_isByte, aiX9_isByte, rfl, rfl, k_callV (n := 3) (T := TX9) (N := 45) (dk_invokevirtual (by decide +kernel : bk3 cX9_follows 9 182 119 = true)) rfl w_6_123 w_6_120 w_6_122 w_0_64 w_1_10 (by decide +kernel) (by decide) (by decide)⟩
theorem oX9_follows_12 : pm_okF cX9_follows RX9 2 false 12 (s_if (fun x => decide (¬ x = 0)) 30 15) := k_if_ne (dk_ifCond_ne (by decide +kernel : bkS cX9_follows 12 154 18 = true)) (by decide)
theorem oX9_follows_15 : pm_okF cX9_follows RX9 2 false 15 (s_al 0 16) := k_aload_n (dk_aload_n_0 (by decide +kernel : bk1 cX9_follows 15 42 = true)) rfl
theorem oX9_follows_16 : pm_okF cX9_follows RX9 2 false 16 (s_al 0 17) := k_aload_n (dk_aload_n_0 (by decide +kernel : bk1 cX9_follows 16 42 = true)) rfl
theorem oX9_follows_17 : pm_okF cX9_follows RX9 2 false 17 (s_getf 9 7 20) := k_getf (C := RX9) (T := TX9) (N := 45) rfl inX9 (by decide) w_5_173 (dk_getfield (by decide +kernel : bk3 cX9_follows 17 180 116 = true))
theorem oX9_follows_20 : pm_okF cX9_follows RX9 2 false 20 (s_const (.int 10) 22) := k_bipush (dk_bipush (by decide +kernel : bkB cX9_follows 20 16 10 = true)) (by decide)
theorem oX9_follows_22 : pm_okF cX9_follows RX9 2 false 22 (s_const (.int 10) 24) := k_bipush (dk_bipush (by decide +kernel : bkB cX9_follows 22 16 10 = true)) (by decide)
theorem oX9_follows_24 : ∃ I : pm_M, pm_at pm_P 266 = some I ∧ I.2.2.2.2.2.1 = 0 ∧ I.2.2.2.2.2.2.1 = 0 ∧ pm_okC cX9_follows RX9 2 false 24 I.1 I.2.1 I.2.2.1 I.2.2.2.1 4 (some 9) 0 0 := ⟨iX9_isByte, aiX9_isByte, rfl, rfl, k_callV (n := 3) (T := TX9) (N := 45) (dk_invokevirtual (by decide +kernel : bk3 cX9_follows 24 182 119 = true)) rfl w_6_123 w_6_120 w_6_122 w_0_64 w_1_10 (by decide +kernel) (by decide) (by decide)⟩
theorem oX9_follows_27 : pm_okF cX9_follows RX9 2 false 27 (s_if (fun x => decide (x = 0)) 43 30) := k_if_eq (dk_ifCond_eq (by decide +kernel : bkS cX9_follows 27 153 16 = true)) (by decide)
theorem oX9_follows_30 : pm_okF cX9_follows RX9 2 false 30 (s_al 0 31) := k_aload_n (dk_aload_n_0 (by decide +kernel : bk1 cX9_follows 30 42 = true)) rfl
theorem oX9_follows_31 : pm_okF cX9_follows RX9 2 false 31 (s_dup 32) := k_dup (dk_dup (by decide +kernel : bk1 cX9_follows 31 89 = true))
theorem oX9_follows_32 : pm_okF cX9_follows RX9 2 false 32 (s_getf 9 7 35) := k_getf (C := RX9) (T := TX9) (N := 45) rfl inX9 (by decide) w_5_173 (dk_getfield (by decide +kernel : bk3 cX9_follows 32 180 116 = true))
theorem oX9_follows_35 : pm_okF cX9_follows RX9 2 false 35 (s_const (.int 1) 36) := k_iconst (dk_iconst_1 (by decide +kernel : bk1 cX9_follows 35 4 = true)) (by decide)
theorem oX9_follows_36 : pm_okF cX9_follows RX9 2 false 36 (s_bin (fun x y => x + y) 37) := k_iadd (dk_iadd (by decide +kernel : bk1 cX9_follows 36 96 = true))
theorem oX9_follows_37 : pm_okF cX9_follows RX9 2 false 37 (s_putf 9 7 (.int) 40) := k_putf (C := RX9) (T := TX9) (N := 45) rfl inX9 tyX9_ok nmX9 (by decide) rfl rfl w_5_173 (dk_putfield (by decide +kernel : bk3 cX9_follows 37 181 116 = true))
theorem oX9_follows_40 : pm_okF cX9_follows RX9 2 false 40 (s_goto 0) := k_goto (dk_goto (by decide +kernel : bkS cX9_follows 40 167 (-40) = true)) (by decide)
theorem oX9_follows_43 : pm_okF cX9_follows RX9 2 false 43 (s_al 0 44) := k_aload_n (dk_aload_n_0 (by decide +kernel : bk1 cX9_follows 43 42 = true)) rfl
theorem oX9_follows_44 : pm_okF cX9_follows RX9 2 false 44 (s_al 0 45) := k_aload_n (dk_aload_n_0 (by decide +kernel : bk1 cX9_follows 44 42 = true)) rfl
theorem oX9_follows_45 : pm_okF cX9_follows RX9 2 false 45 (s_getf 9 7 48) := k_getf (C := RX9) (T := TX9) (N := 45) rfl inX9 (by decide) w_5_173 (dk_getfield (by decide +kernel : bk3 cX9_follows 45 180 116 = true))
theorem oX9_follows_48 : pm_okF cX9_follows RX9 2 false 48 (s_putf 9 9 (.int) 51) := k_putf (C := RX9) (T := TX9) (N := 45) rfl inX9 tyX9_ok nmX9 (by decide) rfl rfl w_5_175 (dk_putfield (by decide +kernel : bk3 cX9_follows 48 181 123 = true))
theorem oX9_follows_51 : pm_okF cX9_follows RX9 2 false 51 (s_al 0 52) := k_aload_n (dk_aload_n_0 (by decide +kernel : bk1 cX9_follows 51 42 = true)) rfl
theorem oX9_follows_52 : pm_okF cX9_follows RX9 2 false 52 (s_const (.int 0) 53) := k_iconst (dk_iconst_0 (by decide +kernel : bk1 cX9_follows 52 3 = true)) (by decide)
theorem oX9_follows_53 : pm_okF cX9_follows RX9 2 false 53 (s_putf 9 10 (.int) 56) := k_putf (C := RX9) (T := TX9) (N := 45) rfl inX9 tyX9_ok nmX9 (by decide) rfl rfl w_5_176 (dk_putfield (by decide +kernel : bk3 cX9_follows 53 181 126 = true))
theorem oX9_follows_56 : pm_okF cX9_follows RX9 2 false 56 (s_al 0 57) := k_aload_n (dk_aload_n_0 (by decide +kernel : bk1 cX9_follows 56 42 = true)) rfl
theorem oX9_follows_57 : pm_okF cX9_follows RX9 2 false 57 (s_const (.long 0) 58) := k_lconst (dk_lconst_0 (by decide +kernel : bk1 cX9_follows 57 9 = true)) (by decide)
theorem oX9_follows_58 : pm_okF cX9_follows RX9 2 false 58 (s_putf 9 11 (.long) 61) := k_putf (C := RX9) (T := TX9) (N := 45) rfl inX9 tyX9_ok nmX9 (by decide) rfl rfl w_5_177 (dk_putfield (by decide +kernel : bk3 cX9_follows 58 181 129 = true))
theorem oX9_follows_61 : pm_okF cX9_follows RX9 2 false 61 (s_al 0 62) := k_aload_n (dk_aload_n_0 (by decide +kernel : bk1 cX9_follows 61 42 = true)) rfl
theorem oX9_follows_62 : pm_okF cX9_follows RX9 2 false 62 (s_getf 9 7 65) := k_getf (C := RX9) (T := TX9) (N := 45) rfl inX9 (by decide) w_5_173 (dk_getfield (by decide +kernel : bk3 cX9_follows 62 180 116 = true))
theorem oX9_follows_65 : pm_okF cX9_follows RX9 2 false 65 (s_al 0 66) := k_aload_n (dk_aload_n_0 (by decide +kernel : bk1 cX9_follows 65 42 = true)) rfl
theorem oX9_follows_66 : pm_okF cX9_follows RX9 2 false 66 (s_getf 9 6 69) := k_getf (C := RX9) (T := TX9) (N := 45) rfl inX9 (by decide) w_5_172 (dk_getfield (by decide +kernel : bk3 cX9_follows 66 180 109 = true))
theorem oX9_follows_69 : pm_okF cX9_follows RX9 2 false 69 (s_icmp (fun x y => decide (¬ x = y)) 80 72) := k_icmp_ne (dk_if_icmp_ne (by decide +kernel : bkS cX9_follows 69 160 11 = true)) (by decide)
theorem oX9_follows_72 : pm_okF cX9_follows RX9 2 false 72 (s_al 0 73) := k_aload_n (dk_aload_n_0 (by decide +kernel : bk1 cX9_follows 72 42 = true)) rfl
theorem oX9_follows_73 : pm_okF cX9_follows RX9 2 false 73 (s_const (.int 0) 74) := k_iconst (dk_iconst_0 (by decide +kernel : bk1 cX9_follows 73 3 = true)) (by decide)
theorem oX9_follows_74 : pm_okF cX9_follows RX9 2 false 74 (s_putf 9 8 (.int) 77) := k_putf (C := RX9) (T := TX9) (N := 45) rfl inX9 tyX9_ok nmX9 (by decide) rfl rfl w_5_174 (dk_putfield (by decide +kernel : bk3 cX9_follows 74 181 133 = true))
theorem oX9_follows_77 : pm_okF cX9_follows RX9 2 false 77 (s_goto 307) := k_goto (dk_goto (by decide +kernel : bkS cX9_follows 77 167 230 = true)) (by decide)
theorem oX9_follows_80 : pm_okF cX9_follows RX9 2 false 80 (s_al 0 81) := k_aload_n (dk_aload_n_0 (by decide +kernel : bk1 cX9_follows 80 42 = true)) rfl
theorem oX9_follows_81 : pm_okF cX9_follows RX9 2 false 81 (s_al 0 82) := k_aload_n (dk_aload_n_0 (by decide +kernel : bk1 cX9_follows 81 42 = true)) rfl
theorem oX9_follows_82 : pm_okF cX9_follows RX9 2 false 82 (s_getf 9 7 85) := k_getf (C := RX9) (T := TX9) (N := 45) rfl inX9 (by decide) w_5_173 (dk_getfield (by decide +kernel : bk3 cX9_follows 82 180 116 = true))
theorem oX9_follows_85 : pm_okF cX9_follows RX9 2 false 85 (s_const (.int 97) 87) := k_bipush (dk_bipush (by decide +kernel : bkB cX9_follows 85 16 97 = true)) (by decide)
theorem oX9_follows_87 : pm_okF cX9_follows RX9 2 false 87 (s_const (.int 122) 89) := k_bipush (dk_bipush (by decide +kernel : bkB cX9_follows 87 16 122 = true)) (by decide)
theorem oX9_follows_89 : ∃ I : pm_M, pm_at pm_P 266 = some I ∧ I.2.2.2.2.2.1 = 0 ∧ I.2.2.2.2.2.2.1 = 0 ∧ pm_okC cX9_follows RX9 2 false 89 I.1 I.2.1 I.2.2.1 I.2.2.2.1 4 (some 9) 0 0 := ⟨iX9_isByte, aiX9_isByte, rfl, rfl, k_callV (n := 3) (T := TX9) (N := 45) (dk_invokevirtual (by decide +kernel : bk3 cX9_follows 89 182 119 = true)) rfl w_6_123 w_6_120 w_6_122 w_0_64 w_1_10 (by decide +kernel) (by decide) (by decide)⟩
theorem oX9_follows_92 : pm_okF cX9_follows RX9 2 false 92 (s_if (fun x => decide (x = 0)) 188 95) := k_if_eq (dk_ifCond_eq (by decide +kernel : bkS cX9_follows 92 153 96 = true)) (by decide)
theorem oX9_follows_95 : pm_okF cX9_follows RX9 2 false 95 (s_al 0 96) := k_aload_n (dk_aload_n_0 (by decide +kernel : bk1 cX9_follows 95 42 = true)) rfl
theorem oX9_follows_96 : pm_okF cX9_follows RX9 2 false 96 (s_const (.int 1) 97) := k_iconst (dk_iconst_1 (by decide +kernel : bk1 cX9_follows 96 4 = true)) (by decide)
theorem oX9_follows_97 : pm_okF cX9_follows RX9 2 false 97 (s_putf 9 8 (.int) 100) := k_putf (C := RX9) (T := TX9) (N := 45) rfl inX9 tyX9_ok nmX9 (by decide) rfl rfl w_5_174 (dk_putfield (by decide +kernel : bk3 cX9_follows 97 181 133 = true))
theorem oX9_follows_100 : pm_okF cX9_follows RX9 2 false 100 (s_const (.int 0) 101) := k_iconst (dk_iconst_0 (by decide +kernel : bk1 cX9_follows 100 3 = true)) (by decide)
theorem oX9_follows_101 : pm_okF cX9_follows RX9 2 false 101 (s_is 1 102) := k_istore_n (dk_istore_n_1 (by decide +kernel : bk1 cX9_follows 101 60 = true)) rfl (by decide)
theorem oX9_follows_102 : pm_okF cX9_follows RX9 2 false 102 (s_al 0 103) := k_aload_n (dk_aload_n_0 (by decide +kernel : bk1 cX9_follows 102 42 = true)) rfl
theorem oX9_follows_103 : pm_okF cX9_follows RX9 2 false 103 (s_al 0 104) := k_aload_n (dk_aload_n_0 (by decide +kernel : bk1 cX9_follows 103 42 = true)) rfl
theorem oX9_follows_104 : pm_okF cX9_follows RX9 2 false 104 (s_getf 9 7 107) := k_getf (C := RX9) (T := TX9) (N := 45) rfl inX9 (by decide) w_5_173 (dk_getfield (by decide +kernel : bk3 cX9_follows 104 180 116 = true))
theorem oX9_follows_107 : pm_okF cX9_follows RX9 2 false 107 (s_const (.int 97) 109) := k_bipush (dk_bipush (by decide +kernel : bkB cX9_follows 107 16 97 = true)) (by decide)
theorem oX9_follows_109 : pm_okF cX9_follows RX9 2 false 109 (s_const (.int 122) 111) := k_bipush (dk_bipush (by decide +kernel : bkB cX9_follows 109 16 122 = true)) (by decide)
theorem oX9_follows_111 : ∃ I : pm_M, pm_at pm_P 266 = some I ∧ I.2.2.2.2.2.1 = 0 ∧ I.2.2.2.2.2.2.1 = 0 ∧ pm_okC cX9_follows RX9 2 false 111 I.1 I.2.1 I.2.2.1 I.2.2.2.1 4 (some 9) 0 0 := ⟨iX9_isByte, aiX9_isByte, rfl, rfl, k_callV (n := 3) (T := TX9) (N := 45) (dk_invokevirtual (by decide +kernel : bk3 cX9_follows 111 182 119 = true)) rfl w_6_123 w_6_120 w_6_122 w_0_64 w_1_10 (by decide +kernel) (by decide) (by decide)⟩
theorem oX9_follows_114 : pm_okF cX9_follows RX9 2 false 114 (s_if (fun x => decide (x = 0)) 185 117) := k_if_eq (dk_ifCond_eq (by decide +kernel : bkS cX9_follows 114 153 71 = true)) (by decide)
theorem oX9_follows_117 : pm_okF cX9_follows RX9 2 false 117 (s_al 0 118) := k_aload_n (dk_aload_n_0 (by decide +kernel : bk1 cX9_follows 117 42 = true)) rfl
theorem oX9_follows_118 : pm_okF cX9_follows RX9 2 false 118 (s_il 1 119) := k_iload_n (dk_iload_n_1 (by decide +kernel : bk1 cX9_follows 118 27 = true)) rfl
theorem oX9_follows_119 : pm_okF cX9_follows RX9 2 false 119 (s_const (.int 11) 121) := k_bipush (dk_bipush (by decide +kernel : bkB cX9_follows 119 16 11 = true)) (by decide)
theorem oX9_follows_121 : pm_okF cX9_follows RX9 2 false 121 (s_icmp (fun x y => decide (x ≤ y)) 130 124) := k_icmp_le (dk_if_icmp_le (by decide +kernel : bkS cX9_follows 121 164 9 = true)) (by decide)
theorem oX9_follows_124 : pm_okF cX9_follows RX9 2 false 124 (s_const (.long (-1)) 127) := k_ldc2 (dk_ldc2_w (by decide +kernel : bk3 cX9_follows 124 20 136 = true)) w_6_124
theorem oX9_follows_127 : pm_okF cX9_follows RX9 2 false 127 (s_goto 153) := k_goto (dk_goto (by decide +kernel : bkS cX9_follows 127 167 26 = true)) (by decide)
theorem oX9_follows_130 : pm_okF cX9_follows RX9 2 false 130 (s_const (.long 27) 133) := k_ldc2 (dk_ldc2_w (by decide +kernel : bk3 cX9_follows 130 20 138 = true)) w_6_125
theorem oX9_follows_133 : pm_okF cX9_follows RX9 2 false 133 (s_al 0 134) := k_aload_n (dk_aload_n_0 (by decide +kernel : bk1 cX9_follows 133 42 = true)) rfl
theorem oX9_follows_134 : pm_okF cX9_follows RX9 2 false 134 (s_getf 9 11 137) := k_getf (C := RX9) (T := TX9) (N := 45) rfl inX9 (by decide) w_5_177 (dk_getfield (by decide +kernel : bk3 cX9_follows 134 180 129 = true))
theorem oX9_follows_137 : pm_okF cX9_follows RX9 2 false 137 (s_lbin (fun x y => x * y) 138) := k_lmul (dk_lmul (by decide +kernel : bk1 cX9_follows 137 105 = true))
theorem oX9_follows_138 : pm_okF cX9_follows RX9 2 false 138 (s_al 0 139) := k_aload_n (dk_aload_n_0 (by decide +kernel : bk1 cX9_follows 138 42 = true)) rfl
theorem oX9_follows_139 : pm_okF cX9_follows RX9 2 false 139 (s_getf 9 5 142) := k_getf (C := RX9) (T := TX9) (N := 45) rfl inX9 (by decide) w_5_171 (dk_getfield (by decide +kernel : bk3 cX9_follows 139 180 23 = true))
theorem oX9_follows_142 : pm_okF cX9_follows RX9 2 false 142 (s_al 0 143) := k_aload_n (dk_aload_n_0 (by decide +kernel : bk1 cX9_follows 142 42 = true)) rfl
theorem oX9_follows_143 : pm_okF cX9_follows RX9 2 false 143 (s_getf 9 7 146) := k_getf (C := RX9) (T := TX9) (N := 45) rfl inX9 (by decide) w_5_173 (dk_getfield (by decide +kernel : bk3 cX9_follows 143 180 116 = true))
theorem oX9_follows_146 : pm_okF cX9_follows RX9 2 false 146 (s_bald 147) := k_bald (dk_baload (by decide +kernel : bk1 cX9_follows 146 51 = true))
theorem oX9_follows_147 : pm_okF cX9_follows RX9 2 false 147 (s_i2l 148) := k_i2l (dk_i2l (by decide +kernel : bk1 cX9_follows 147 133 = true))
theorem oX9_follows_148 : pm_okF cX9_follows RX9 2 false 148 (s_lbin (fun x y => x + y) 149) := k_ladd (dk_ladd (by decide +kernel : bk1 cX9_follows 148 97 = true))
theorem oX9_follows_149 : pm_okF cX9_follows RX9 2 false 149 (s_const (.long 96) 152) := k_ldc2 (dk_ldc2_w (by decide +kernel : bk3 cX9_follows 149 20 140 = true)) w_6_126
theorem oX9_follows_152 : pm_okF cX9_follows RX9 2 false 152 (s_lbin (fun x y => x - y) 153) := k_lsub (dk_lsub (by decide +kernel : bk1 cX9_follows 152 101 = true))
theorem oX9_follows_153 : pm_okF cX9_follows RX9 2 false 153 (s_putf 9 11 (.long) 156) := k_putf (C := RX9) (T := TX9) (N := 45) rfl inX9 tyX9_ok nmX9 (by decide) rfl rfl w_5_177 (dk_putfield (by decide +kernel : bk3 cX9_follows 153 181 129 = true))
theorem oX9_follows_156 : pm_okF cX9_follows RX9 2 false 156 (s_il 1 157) := k_iload_n (dk_iload_n_1 (by decide +kernel : bk1 cX9_follows 156 27 = true)) rfl
theorem oX9_follows_157 : pm_okF cX9_follows RX9 2 false 157 (s_const (.int 11) 159) := k_bipush (dk_bipush (by decide +kernel : bkB cX9_follows 157 16 11 = true)) (by decide)
theorem oX9_follows_159 : pm_okF cX9_follows RX9 2 false 159 (s_icmp (fun x y => decide (x ≤ y)) 169 162) := k_icmp_le (dk_if_icmp_le (by decide +kernel : bkS cX9_follows 159 164 10 = true)) (by decide)
theorem oX9_follows_162 : pm_okF cX9_follows RX9 2 false 162 (s_al 0 163) := k_aload_n (dk_aload_n_0 (by decide +kernel : bk1 cX9_follows 162 42 = true)) rfl
theorem oX9_follows_163 : pm_okF cX9_follows RX9 2 false 163 (s_const (.long (-1)) 166) := k_ldc2 (dk_ldc2_w (by decide +kernel : bk3 cX9_follows 163 20 136 = true)) w_6_124
theorem oX9_follows_166 : pm_okF cX9_follows RX9 2 false 166 (s_putf 9 11 (.long) 169) := k_putf (C := RX9) (T := TX9) (N := 45) rfl inX9 tyX9_ok nmX9 (by decide) rfl rfl w_5_177 (dk_putfield (by decide +kernel : bk3 cX9_follows 166 181 129 = true))
theorem oX9_follows_169 : pm_okF cX9_follows RX9 2 false 169 (s_al 0 170) := k_aload_n (dk_aload_n_0 (by decide +kernel : bk1 cX9_follows 169 42 = true)) rfl
theorem oX9_follows_170 : pm_okF cX9_follows RX9 2 false 170 (s_dup 171) := k_dup (dk_dup (by decide +kernel : bk1 cX9_follows 170 89 = true))
theorem oX9_follows_171 : pm_okF cX9_follows RX9 2 false 171 (s_getf 9 7 174) := k_getf (C := RX9) (T := TX9) (N := 45) rfl inX9 (by decide) w_5_173 (dk_getfield (by decide +kernel : bk3 cX9_follows 171 180 116 = true))
theorem oX9_follows_174 : pm_okF cX9_follows RX9 2 false 174 (s_const (.int 1) 175) := k_iconst (dk_iconst_1 (by decide +kernel : bk1 cX9_follows 174 4 = true)) (by decide)
theorem oX9_follows_175 : pm_okF cX9_follows RX9 2 false 175 (s_bin (fun x y => x + y) 176) := k_iadd (dk_iadd (by decide +kernel : bk1 cX9_follows 175 96 = true))
theorem oX9_follows_176 : pm_okF cX9_follows RX9 2 false 176 (s_putf 9 7 (.int) 179) := k_putf (C := RX9) (T := TX9) (N := 45) rfl inX9 tyX9_ok nmX9 (by decide) rfl rfl w_5_173 (dk_putfield (by decide +kernel : bk3 cX9_follows 176 181 116 = true))
theorem oX9_follows_179 : pm_okF cX9_follows RX9 2 false 179 (s_inc 1 1 182) := k_iinc (dk_iinc (by decide +kernel : bkI cX9_follows 179 132 1 1 = true)) (by decide) (by decide)
theorem oX9_follows_182 : pm_okF cX9_follows RX9 2 false 182 (s_goto 102) := k_goto (dk_goto (by decide +kernel : bkS cX9_follows 182 167 (-80) = true)) (by decide)
theorem oX9_follows_185 : pm_okF cX9_follows RX9 2 false 185 (s_goto 307) := k_goto (dk_goto (by decide +kernel : bkS cX9_follows 185 167 122 = true)) (by decide)
theorem oX9_follows_188 : pm_okF cX9_follows RX9 2 false 188 (s_al 0 189) := k_aload_n (dk_aload_n_0 (by decide +kernel : bk1 cX9_follows 188 42 = true)) rfl
theorem oX9_follows_189 : pm_okF cX9_follows RX9 2 false 189 (s_al 0 190) := k_aload_n (dk_aload_n_0 (by decide +kernel : bk1 cX9_follows 189 42 = true)) rfl
theorem oX9_follows_190 : pm_okF cX9_follows RX9 2 false 190 (s_getf 9 7 193) := k_getf (C := RX9) (T := TX9) (N := 45) rfl inX9 (by decide) w_5_173 (dk_getfield (by decide +kernel : bk3 cX9_follows 190 180 116 = true))
theorem oX9_follows_193 : pm_okF cX9_follows RX9 2 false 193 (s_const (.int 48) 195) := k_bipush (dk_bipush (by decide +kernel : bkB cX9_follows 193 16 48 = true)) (by decide)
theorem oX9_follows_195 : pm_okF cX9_follows RX9 2 false 195 (s_const (.int 57) 197) := k_bipush (dk_bipush (by decide +kernel : bkB cX9_follows 195 16 57 = true)) (by decide)
theorem oX9_follows_197 : ∃ I : pm_M, pm_at pm_P 266 = some I ∧ I.2.2.2.2.2.1 = 0 ∧ I.2.2.2.2.2.2.1 = 0 ∧ pm_okC cX9_follows RX9 2 false 197 I.1 I.2.1 I.2.2.1 I.2.2.2.1 4 (some 9) 0 0 := ⟨iX9_isByte, aiX9_isByte, rfl, rfl, k_callV (n := 3) (T := TX9) (N := 45) (dk_invokevirtual (by decide +kernel : bk3 cX9_follows 197 182 119 = true)) rfl w_6_123 w_6_120 w_6_122 w_0_64 w_1_10 (by decide +kernel) (by decide) (by decide)⟩
theorem oX9_follows_200 : pm_okF cX9_follows RX9 2 false 200 (s_if (fun x => decide (x = 0)) 274 203) := k_if_eq (dk_ifCond_eq (by decide +kernel : bkS cX9_follows 200 153 74 = true)) (by decide)
theorem oX9_follows_203 : pm_okF cX9_follows RX9 2 false 203 (s_al 0 204) := k_aload_n (dk_aload_n_0 (by decide +kernel : bk1 cX9_follows 203 42 = true)) rfl
theorem oX9_follows_204 : pm_okF cX9_follows RX9 2 false 204 (s_const (.int 2) 205) := k_iconst (dk_iconst_2 (by decide +kernel : bk1 cX9_follows 204 5 = true)) (by decide)
theorem oX9_follows_205 : pm_okF cX9_follows RX9 2 false 205 (s_putf 9 8 (.int) 208) := k_putf (C := RX9) (T := TX9) (N := 45) rfl inX9 tyX9_ok nmX9 (by decide) rfl rfl w_5_174 (dk_putfield (by decide +kernel : bk3 cX9_follows 205 181 133 = true))
theorem oX9_follows_208 : pm_okF cX9_follows RX9 2 false 208 (s_al 0 209) := k_aload_n (dk_aload_n_0 (by decide +kernel : bk1 cX9_follows 208 42 = true)) rfl
theorem oX9_follows_209 : pm_okF cX9_follows RX9 2 false 209 (s_al 0 210) := k_aload_n (dk_aload_n_0 (by decide +kernel : bk1 cX9_follows 209 42 = true)) rfl
theorem oX9_follows_210 : pm_okF cX9_follows RX9 2 false 210 (s_getf 9 7 213) := k_getf (C := RX9) (T := TX9) (N := 45) rfl inX9 (by decide) w_5_173 (dk_getfield (by decide +kernel : bk3 cX9_follows 210 180 116 = true))
theorem oX9_follows_213 : pm_okF cX9_follows RX9 2 false 213 (s_const (.int 48) 215) := k_bipush (dk_bipush (by decide +kernel : bkB cX9_follows 213 16 48 = true)) (by decide)
theorem oX9_follows_215 : pm_okF cX9_follows RX9 2 false 215 (s_const (.int 57) 217) := k_bipush (dk_bipush (by decide +kernel : bkB cX9_follows 215 16 57 = true)) (by decide)
theorem oX9_follows_217 : ∃ I : pm_M, pm_at pm_P 266 = some I ∧ I.2.2.2.2.2.1 = 0 ∧ I.2.2.2.2.2.2.1 = 0 ∧ pm_okC cX9_follows RX9 2 false 217 I.1 I.2.1 I.2.2.1 I.2.2.2.1 4 (some 9) 0 0 := ⟨iX9_isByte, aiX9_isByte, rfl, rfl, k_callV (n := 3) (T := TX9) (N := 45) (dk_invokevirtual (by decide +kernel : bk3 cX9_follows 217 182 119 = true)) rfl w_6_123 w_6_120 w_6_122 w_0_64 w_1_10 (by decide +kernel) (by decide) (by decide)⟩
theorem oX9_follows_220 : pm_okF cX9_follows RX9 2 false 220 (s_if (fun x => decide (x = 0)) 307 223) := k_if_eq (dk_ifCond_eq (by decide +kernel : bkS cX9_follows 220 153 87 = true)) (by decide)
theorem oX9_follows_223 : pm_okF cX9_follows RX9 2 false 223 (s_al 0 224) := k_aload_n (dk_aload_n_0 (by decide +kernel : bk1 cX9_follows 223 42 = true)) rfl
theorem oX9_follows_224 : pm_okF cX9_follows RX9 2 false 224 (s_al 0 225) := k_aload_n (dk_aload_n_0 (by decide +kernel : bk1 cX9_follows 224 42 = true)) rfl
theorem oX9_follows_225 : pm_okF cX9_follows RX9 2 false 225 (s_getf 9 10 228) := k_getf (C := RX9) (T := TX9) (N := 45) rfl inX9 (by decide) w_5_176 (dk_getfield (by decide +kernel : bk3 cX9_follows 225 180 126 = true))
theorem oX9_follows_228 : pm_okF cX9_follows RX9 2 false 228 (s_const (.int 100000) 230) := k_ldc (dk_ldc (by decide +kernel : bk2 cX9_follows 228 18 142 = true)) w_6_127
theorem oX9_follows_230 : pm_okF cX9_follows RX9 2 false 230 (s_icmp (fun x y => decide (x ≤ y)) 238 233) := k_icmp_le (dk_if_icmp_le (by decide +kernel : bkS cX9_follows 230 164 8 = true)) (by decide)
theorem oX9_follows_233 : pm_okF cX9_follows RX9 2 false 233 (s_const (.int 1000000) 235) := k_ldc (dk_ldc (by decide +kernel : bk2 cX9_follows 233 18 143 = true)) w_6_128
theorem oX9_follows_235 : pm_okF cX9_follows RX9 2 false 235 (s_goto 258) := k_goto (dk_goto (by decide +kernel : bkS cX9_follows 235 167 23 = true)) (by decide)
theorem oX9_follows_238 : pm_okF cX9_follows RX9 2 false 238 (s_const (.int 10) 240) := k_bipush (dk_bipush (by decide +kernel : bkB cX9_follows 238 16 10 = true)) (by decide)
theorem oX9_follows_240 : pm_okF cX9_follows RX9 2 false 240 (s_al 0 241) := k_aload_n (dk_aload_n_0 (by decide +kernel : bk1 cX9_follows 240 42 = true)) rfl
theorem oX9_follows_241 : pm_okF cX9_follows RX9 2 false 241 (s_getf 9 10 244) := k_getf (C := RX9) (T := TX9) (N := 45) rfl inX9 (by decide) w_5_176 (dk_getfield (by decide +kernel : bk3 cX9_follows 241 180 126 = true))
theorem oX9_follows_244 : pm_okF cX9_follows RX9 2 false 244 (s_bin (fun x y => x * y) 245) := k_imul (dk_imul (by decide +kernel : bk1 cX9_follows 244 104 = true))
theorem oX9_follows_245 : pm_okF cX9_follows RX9 2 false 245 (s_al 0 246) := k_aload_n (dk_aload_n_0 (by decide +kernel : bk1 cX9_follows 245 42 = true)) rfl
theorem oX9_follows_246 : pm_okF cX9_follows RX9 2 false 246 (s_getf 9 5 249) := k_getf (C := RX9) (T := TX9) (N := 45) rfl inX9 (by decide) w_5_171 (dk_getfield (by decide +kernel : bk3 cX9_follows 246 180 23 = true))
theorem oX9_follows_249 : pm_okF cX9_follows RX9 2 false 249 (s_al 0 250) := k_aload_n (dk_aload_n_0 (by decide +kernel : bk1 cX9_follows 249 42 = true)) rfl
theorem oX9_follows_250 : pm_okF cX9_follows RX9 2 false 250 (s_getf 9 7 253) := k_getf (C := RX9) (T := TX9) (N := 45) rfl inX9 (by decide) w_5_173 (dk_getfield (by decide +kernel : bk3 cX9_follows 250 180 116 = true))
theorem oX9_follows_253 : pm_okF cX9_follows RX9 2 false 253 (s_bald 254) := k_bald (dk_baload (by decide +kernel : bk1 cX9_follows 253 51 = true))
theorem oX9_follows_254 : pm_okF cX9_follows RX9 2 false 254 (s_bin (fun x y => x + y) 255) := k_iadd (dk_iadd (by decide +kernel : bk1 cX9_follows 254 96 = true))
theorem oX9_follows_255 : pm_okF cX9_follows RX9 2 false 255 (s_const (.int 48) 257) := k_bipush (dk_bipush (by decide +kernel : bkB cX9_follows 255 16 48 = true)) (by decide)
theorem oX9_follows_257 : pm_okF cX9_follows RX9 2 false 257 (s_bin (fun x y => x - y) 258) := k_isub (dk_isub (by decide +kernel : bk1 cX9_follows 257 100 = true))
theorem oX9_follows_258 : pm_okF cX9_follows RX9 2 false 258 (s_putf 9 10 (.int) 261) := k_putf (C := RX9) (T := TX9) (N := 45) rfl inX9 tyX9_ok nmX9 (by decide) rfl rfl w_5_176 (dk_putfield (by decide +kernel : bk3 cX9_follows 258 181 126 = true))
theorem oX9_follows_261 : pm_okF cX9_follows RX9 2 false 261 (s_al 0 262) := k_aload_n (dk_aload_n_0 (by decide +kernel : bk1 cX9_follows 261 42 = true)) rfl
theorem oX9_follows_262 : pm_okF cX9_follows RX9 2 false 262 (s_dup 263) := k_dup (dk_dup (by decide +kernel : bk1 cX9_follows 262 89 = true))
theorem oX9_follows_263 : pm_okF cX9_follows RX9 2 false 263 (s_getf 9 7 266) := k_getf (C := RX9) (T := TX9) (N := 45) rfl inX9 (by decide) w_5_173 (dk_getfield (by decide +kernel : bk3 cX9_follows 263 180 116 = true))
theorem oX9_follows_266 : pm_okF cX9_follows RX9 2 false 266 (s_const (.int 1) 267) := k_iconst (dk_iconst_1 (by decide +kernel : bk1 cX9_follows 266 4 = true)) (by decide)
theorem oX9_follows_267 : pm_okF cX9_follows RX9 2 false 267 (s_bin (fun x y => x + y) 268) := k_iadd (dk_iadd (by decide +kernel : bk1 cX9_follows 267 96 = true))
theorem oX9_follows_268 : pm_okF cX9_follows RX9 2 false 268 (s_putf 9 7 (.int) 271) := k_putf (C := RX9) (T := TX9) (N := 45) rfl inX9 tyX9_ok nmX9 (by decide) rfl rfl w_5_173 (dk_putfield (by decide +kernel : bk3 cX9_follows 268 181 116 = true))
theorem oX9_follows_271 : pm_okF cX9_follows RX9 2 false 271 (s_goto 208) := k_goto (dk_goto (by decide +kernel : bkS cX9_follows 271 167 (-63) = true)) (by decide)
theorem oX9_follows_274 : pm_okF cX9_follows RX9 2 false 274 (s_al 0 275) := k_aload_n (dk_aload_n_0 (by decide +kernel : bk1 cX9_follows 274 42 = true)) rfl
theorem oX9_follows_275 : pm_okF cX9_follows RX9 2 false 275 (s_al 0 276) := k_aload_n (dk_aload_n_0 (by decide +kernel : bk1 cX9_follows 275 42 = true)) rfl
theorem oX9_follows_276 : pm_okF cX9_follows RX9 2 false 276 (s_getf 9 5 279) := k_getf (C := RX9) (T := TX9) (N := 45) rfl inX9 (by decide) w_5_171 (dk_getfield (by decide +kernel : bk3 cX9_follows 276 180 23 = true))
theorem oX9_follows_279 : pm_okF cX9_follows RX9 2 false 279 (s_al 0 280) := k_aload_n (dk_aload_n_0 (by decide +kernel : bk1 cX9_follows 279 42 = true)) rfl
theorem oX9_follows_280 : pm_okF cX9_follows RX9 2 false 280 (s_getf 9 7 283) := k_getf (C := RX9) (T := TX9) (N := 45) rfl inX9 (by decide) w_5_173 (dk_getfield (by decide +kernel : bk3 cX9_follows 280 180 116 = true))
theorem oX9_follows_283 : pm_okF cX9_follows RX9 2 false 283 (s_bald 284) := k_bald (dk_baload (by decide +kernel : bk1 cX9_follows 283 51 = true))
theorem oX9_follows_284 : pm_okF cX9_follows RX9 2 false 284 (s_const (.int 59) 286) := k_bipush (dk_bipush (by decide +kernel : bkB cX9_follows 284 16 59 = true)) (by decide)
theorem oX9_follows_286 : pm_okF cX9_follows RX9 2 false 286 (s_icmp (fun x y => decide (¬ x = y)) 293 289) := k_icmp_ne (dk_if_icmp_ne (by decide +kernel : bkS cX9_follows 286 160 7 = true)) (by decide)
theorem oX9_follows_289 : pm_okF cX9_follows RX9 2 false 289 (s_const (.int 3) 290) := k_iconst (dk_iconst_3 (by decide +kernel : bk1 cX9_follows 289 6 = true)) (by decide)
theorem oX9_follows_290 : pm_okF cX9_follows RX9 2 false 290 (s_goto 294) := k_goto (dk_goto (by decide +kernel : bkS cX9_follows 290 167 4 = true)) (by decide)
theorem oX9_follows_293 : pm_okF cX9_follows RX9 2 false 293 (s_const (.int 4) 294) := k_iconst (dk_iconst_4 (by decide +kernel : bk1 cX9_follows 293 7 = true)) (by decide)
theorem oX9_follows_294 : pm_okF cX9_follows RX9 2 false 294 (s_putf 9 8 (.int) 297) := k_putf (C := RX9) (T := TX9) (N := 45) rfl inX9 tyX9_ok nmX9 (by decide) rfl rfl w_5_174 (dk_putfield (by decide +kernel : bk3 cX9_follows 294 181 133 = true))
theorem oX9_follows_297 : pm_okF cX9_follows RX9 2 false 297 (s_al 0 298) := k_aload_n (dk_aload_n_0 (by decide +kernel : bk1 cX9_follows 297 42 = true)) rfl
theorem oX9_follows_298 : pm_okF cX9_follows RX9 2 false 298 (s_dup 299) := k_dup (dk_dup (by decide +kernel : bk1 cX9_follows 298 89 = true))
theorem oX9_follows_299 : pm_okF cX9_follows RX9 2 false 299 (s_getf 9 7 302) := k_getf (C := RX9) (T := TX9) (N := 45) rfl inX9 (by decide) w_5_173 (dk_getfield (by decide +kernel : bk3 cX9_follows 299 180 116 = true))
theorem oX9_follows_302 : pm_okF cX9_follows RX9 2 false 302 (s_const (.int 1) 303) := k_iconst (dk_iconst_1 (by decide +kernel : bk1 cX9_follows 302 4 = true)) (by decide)
theorem oX9_follows_303 : pm_okF cX9_follows RX9 2 false 303 (s_bin (fun x y => x + y) 304) := k_iadd (dk_iadd (by decide +kernel : bk1 cX9_follows 303 96 = true))
theorem oX9_follows_304 : pm_okF cX9_follows RX9 2 false 304 (s_putf 9 7 (.int) 307) := k_putf (C := RX9) (T := TX9) (N := 45) rfl inX9 tyX9_ok nmX9 (by decide) rfl rfl w_5_173 (dk_putfield (by decide +kernel : bk3 cX9_follows 304 181 116 = true))
theorem oX9_follows_307 : pm_okR cX9_follows none 307 0 := ⟨rfl, (dk_return (by decide +kernel : bk1 cX9_follows 307 177 = true))⟩
set_option maxRecDepth 20000 in
theorem oX9_follows : pm_okM pm_P iX9_follows := ⟨rfl, (fun h => by cases h), List.forall_mem_cons.mpr ⟨oX9_follows_0, List.forall_mem_cons.mpr ⟨oX9_follows_1, List.forall_mem_cons.mpr ⟨oX9_follows_2, List.forall_mem_cons.mpr ⟨oX9_follows_5, List.forall_mem_cons.mpr ⟨oX9_follows_7, List.forall_mem_cons.mpr ⟨oX9_follows_9, List.forall_mem_cons.mpr ⟨oX9_follows_12, List.forall_mem_cons.mpr ⟨oX9_follows_15, List.forall_mem_cons.mpr ⟨oX9_follows_16, List.forall_mem_cons.mpr ⟨oX9_follows_17, List.forall_mem_cons.mpr ⟨oX9_follows_20, List.forall_mem_cons.mpr ⟨oX9_follows_22, List.forall_mem_cons.mpr ⟨oX9_follows_24, List.forall_mem_cons.mpr ⟨oX9_follows_27, List.forall_mem_cons.mpr ⟨oX9_follows_30, List.forall_mem_cons.mpr ⟨oX9_follows_31, List.forall_mem_cons.mpr ⟨oX9_follows_32, List.forall_mem_cons.mpr ⟨oX9_follows_35, List.forall_mem_cons.mpr ⟨oX9_follows_36, List.forall_mem_cons.mpr ⟨oX9_follows_37, List.forall_mem_cons.mpr ⟨oX9_follows_40, List.forall_mem_cons.mpr ⟨oX9_follows_43, List.forall_mem_cons.mpr ⟨oX9_follows_44, List.forall_mem_cons.mpr ⟨oX9_follows_45, List.forall_mem_cons.mpr ⟨oX9_follows_48, List.forall_mem_cons.mpr ⟨oX9_follows_51, List.forall_mem_cons.mpr ⟨oX9_follows_52, List.forall_mem_cons.mpr ⟨oX9_follows_53, List.forall_mem_cons.mpr ⟨oX9_follows_56, List.forall_mem_cons.mpr ⟨oX9_follows_57, List.forall_mem_cons.mpr ⟨oX9_follows_58, List.forall_mem_cons.mpr ⟨oX9_follows_61, List.forall_mem_cons.mpr ⟨oX9_follows_62, List.forall_mem_cons.mpr ⟨oX9_follows_65, List.forall_mem_cons.mpr ⟨oX9_follows_66, List.forall_mem_cons.mpr ⟨oX9_follows_69, List.forall_mem_cons.mpr ⟨oX9_follows_72, List.forall_mem_cons.mpr ⟨oX9_follows_73, List.forall_mem_cons.mpr ⟨oX9_follows_74, List.forall_mem_cons.mpr ⟨oX9_follows_77, List.forall_mem_cons.mpr ⟨oX9_follows_80, List.forall_mem_cons.mpr ⟨oX9_follows_81, List.forall_mem_cons.mpr ⟨oX9_follows_82, List.forall_mem_cons.mpr ⟨oX9_follows_85, List.forall_mem_cons.mpr ⟨oX9_follows_87, List.forall_mem_cons.mpr ⟨oX9_follows_89, List.forall_mem_cons.mpr ⟨oX9_follows_92, List.forall_mem_cons.mpr ⟨oX9_follows_95, List.forall_mem_cons.mpr ⟨oX9_follows_96, List.forall_mem_cons.mpr ⟨oX9_follows_97, List.forall_mem_cons.mpr ⟨oX9_follows_100, List.forall_mem_cons.mpr ⟨oX9_follows_101, List.forall_mem_cons.mpr ⟨oX9_follows_102, List.forall_mem_cons.mpr ⟨oX9_follows_103, List.forall_mem_cons.mpr ⟨oX9_follows_104, List.forall_mem_cons.mpr ⟨oX9_follows_107, List.forall_mem_cons.mpr ⟨oX9_follows_109, List.forall_mem_cons.mpr ⟨oX9_follows_111, List.forall_mem_cons.mpr ⟨oX9_follows_114, List.forall_mem_cons.mpr ⟨oX9_follows_117, List.forall_mem_cons.mpr ⟨oX9_follows_118, List.forall_mem_cons.mpr ⟨oX9_follows_119, List.forall_mem_cons.mpr ⟨oX9_follows_121, List.forall_mem_cons.mpr ⟨oX9_follows_124, List.forall_mem_cons.mpr ⟨oX9_follows_127, List.forall_mem_cons.mpr ⟨oX9_follows_130, List.forall_mem_cons.mpr ⟨oX9_follows_133, List.forall_mem_cons.mpr ⟨oX9_follows_134, List.forall_mem_cons.mpr ⟨oX9_follows_137, List.forall_mem_cons.mpr ⟨oX9_follows_138, List.forall_mem_cons.mpr ⟨oX9_follows_139, List.forall_mem_cons.mpr ⟨oX9_follows_142, List.forall_mem_cons.mpr ⟨oX9_follows_143, List.forall_mem_cons.mpr ⟨oX9_follows_146, List.forall_mem_cons.mpr ⟨oX9_follows_147, List.forall_mem_cons.mpr ⟨oX9_follows_148, List.forall_mem_cons.mpr ⟨oX9_follows_149, List.forall_mem_cons.mpr ⟨oX9_follows_152, List.forall_mem_cons.mpr ⟨oX9_follows_153, List.forall_mem_cons.mpr ⟨oX9_follows_156, List.forall_mem_cons.mpr ⟨oX9_follows_157, List.forall_mem_cons.mpr ⟨oX9_follows_159, List.forall_mem_cons.mpr ⟨oX9_follows_162, List.forall_mem_cons.mpr ⟨oX9_follows_163, List.forall_mem_cons.mpr ⟨oX9_follows_166, List.forall_mem_cons.mpr ⟨oX9_follows_169, List.forall_mem_cons.mpr ⟨oX9_follows_170, List.forall_mem_cons.mpr ⟨oX9_follows_171, List.forall_mem_cons.mpr ⟨oX9_follows_174, List.forall_mem_cons.mpr ⟨oX9_follows_175, List.forall_mem_cons.mpr ⟨oX9_follows_176, List.forall_mem_cons.mpr ⟨oX9_follows_179, List.forall_mem_cons.mpr ⟨oX9_follows_182, List.forall_mem_cons.mpr ⟨oX9_follows_185, List.forall_mem_cons.mpr ⟨oX9_follows_188, List.forall_mem_cons.mpr ⟨oX9_follows_189, List.forall_mem_cons.mpr ⟨oX9_follows_190, List.forall_mem_cons.mpr ⟨oX9_follows_193, List.forall_mem_cons.mpr ⟨oX9_follows_195, List.forall_mem_cons.mpr ⟨oX9_follows_197, List.forall_mem_cons.mpr ⟨oX9_follows_200, List.forall_mem_cons.mpr ⟨oX9_follows_203, List.forall_mem_cons.mpr ⟨oX9_follows_204, List.forall_mem_cons.mpr ⟨oX9_follows_205, List.forall_mem_cons.mpr ⟨oX9_follows_208, List.forall_mem_cons.mpr ⟨oX9_follows_209, List.forall_mem_cons.mpr ⟨oX9_follows_210, List.forall_mem_cons.mpr ⟨oX9_follows_213, List.forall_mem_cons.mpr ⟨oX9_follows_215, List.forall_mem_cons.mpr ⟨oX9_follows_217, List.forall_mem_cons.mpr ⟨oX9_follows_220, List.forall_mem_cons.mpr ⟨oX9_follows_223, List.forall_mem_cons.mpr ⟨oX9_follows_224, List.forall_mem_cons.mpr ⟨oX9_follows_225, List.forall_mem_cons.mpr ⟨oX9_follows_228, List.forall_mem_cons.mpr ⟨oX9_follows_230, List.forall_mem_cons.mpr ⟨oX9_follows_233, List.forall_mem_cons.mpr ⟨oX9_follows_235, List.forall_mem_cons.mpr ⟨oX9_follows_238, List.forall_mem_cons.mpr ⟨oX9_follows_240, List.forall_mem_cons.mpr ⟨oX9_follows_241, List.forall_mem_cons.mpr ⟨oX9_follows_244, List.forall_mem_cons.mpr ⟨oX9_follows_245, List.forall_mem_cons.mpr ⟨oX9_follows_246, List.forall_mem_cons.mpr ⟨oX9_follows_249, List.forall_mem_cons.mpr ⟨oX9_follows_250, List.forall_mem_cons.mpr ⟨oX9_follows_253, List.forall_mem_cons.mpr ⟨oX9_follows_254, List.forall_mem_cons.mpr ⟨oX9_follows_255, List.forall_mem_cons.mpr ⟨oX9_follows_257, List.forall_mem_cons.mpr ⟨oX9_follows_258, List.forall_mem_cons.mpr ⟨oX9_follows_261, List.forall_mem_cons.mpr ⟨oX9_follows_262, List.forall_mem_cons.mpr ⟨oX9_follows_263, List.forall_mem_cons.mpr ⟨oX9_follows_266, List.forall_mem_cons.mpr ⟨oX9_follows_267, List.forall_mem_cons.mpr ⟨oX9_follows_268, List.forall_mem_cons.mpr ⟨oX9_follows_271, List.forall_mem_cons.mpr ⟨oX9_follows_274, List.forall_mem_cons.mpr ⟨oX9_follows_275, List.forall_mem_cons.mpr ⟨oX9_follows_276, List.forall_mem_cons.mpr ⟨oX9_follows_279, List.forall_mem_cons.mpr ⟨oX9_follows_280, List.forall_mem_cons.mpr ⟨oX9_follows_283, List.forall_mem_cons.mpr ⟨oX9_follows_284, List.forall_mem_cons.mpr ⟨oX9_follows_286, List.forall_mem_cons.mpr ⟨oX9_follows_289, List.forall_mem_cons.mpr ⟨oX9_follows_290, List.forall_mem_cons.mpr ⟨oX9_follows_293, List.forall_mem_cons.mpr ⟨oX9_follows_294, List.forall_mem_cons.mpr ⟨oX9_follows_297, List.forall_mem_cons.mpr ⟨oX9_follows_298, List.forall_mem_cons.mpr ⟨oX9_follows_299, List.forall_mem_cons.mpr ⟨oX9_follows_302, List.forall_mem_cons.mpr ⟨oX9_follows_303, List.forall_mem_cons.mpr ⟨oX9_follows_304, List.forall_mem_cons.mpr ⟨oX9_follows_307, fun _ h => absurd h List.not_mem_nil⟩⟩⟩⟩⟩⟩⟩⟩⟩⟩⟩⟩⟩⟩⟩⟩⟩⟩⟩⟩⟩⟩⟩⟩⟩⟩⟩⟩⟩⟩⟩⟩⟩⟩⟩⟩⟩⟩⟩⟩⟩⟩⟩⟩⟩⟩⟩⟩⟩⟩⟩⟩⟩⟩⟩⟩⟩⟩⟩⟩⟩⟩⟩⟩⟩⟩⟩⟩⟩⟩⟩⟩⟩⟩⟩⟩⟩⟩⟩⟩⟩⟩⟩⟩⟩⟩⟩⟩⟩⟩⟩⟩⟩⟩⟩⟩⟩⟩⟩⟩⟩⟩⟩⟩⟩⟩⟩⟩⟩⟩⟩⟩⟩⟩⟩⟩⟩⟩⟩⟩⟩⟩⟩⟩⟩⟩⟩⟩⟩⟩⟩⟩⟩⟩⟩⟩⟩⟩⟩⟩⟩⟩⟩⟩⟩⟩⟩⟩⟩⟩⟩⟩⟩⟩⟩⟩⟩⟩
end
