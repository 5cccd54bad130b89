set_option maxRecDepth 20000 in
theorem aiX9_prime : pm_at pm_P 327 = some iX9_prime := rfl
set_option maxRecDepth 20000 in
theorem aiX9_queue : pm_at pm_P 328 = some iX9_queue := rfl
set_option maxRecDepth 20000 in
theorem aiX9_rate : pm_at pm_P 329 = some iX9_rate := rfl
set_option maxRecDepth 20000 in
theorem aiX9_reads0 : pm_at pm_P 330 = some iX9_reads0 := rfl
set_option maxRecDepth 20000 in
theorem aiX9_regain : pm_at pm_P 331 = some iX9_regain := rfl
set_option maxRecDepth 20000 in
theorem aiX9_region : pm_at pm_P 332 = some iX9_region := rfl
set_option maxRecDepth 20000 in
theorem aiX9_remain : pm_at pm_P 333 = some iX9_remain := rfl
set_option maxRecDepth 20000 in
theorem aiX9_rests : pm_at pm_P 334 = some iX9_rests := rfl
set_option maxRecDepth 20000 in
theorem aiX9_ring : pm_at pm_P 335 = some iX9_ring := rfl
set_option maxRecDepth 20000 in
theorem aiX9_ringFree : pm_at pm_P 336 = some iX9_ringFree := rfl
set_option maxRecDepth 20000 in
theorem aiX9_roots : pm_at pm_P 337 = some iX9_roots := rfl
set_option maxRecDepth 20000 in
theorem aiX9_row : pm_at pm_P 338 = some iX9_row := rfl
set_option maxRecDepth 20000 in
theorem aiX9_rows : pm_at pm_P 339 = some iX9_rows := rfl
set_option maxRecDepth 20000 in
theorem aiX9_rowsBy : pm_at pm_P 340 = some iX9_rowsBy := rfl
set_option maxRecDepth 20000 in
theorem aiX9_runs : pm_at pm_P 341 = some iX9_runs := rfl
set_option maxRecDepth 20000 in
theorem aiX9_searches : pm_at pm_P 342 = some iX9_searches := rfl
set_option maxRecDepth 20000 in
theorem aiX9_seenPlace : pm_at pm_P 343 = some iX9_seenPlace := rfl
set_option maxRecDepth 20000 in
theorem aiX9_share : pm_at pm_P 344 = some iX9_share := rfl
set_option maxRecDepth 20000 in
theorem aiX9_shifted : pm_at pm_P 345 = some iX9_shifted := rfl
set_option maxRecDepth 20000 in
theorem aiX9_shiftedOf : pm_at pm_P 346 = some iX9_shiftedOf := rfl
set_option maxRecDepth 20000 in
theorem aiX9_shifts : pm_at pm_P 347 = some iX9_shifts := rfl
set_option maxRecDepth 20000 in
theorem aiX9_sizeOf : pm_at pm_P 348 = some iX9_sizeOf := rfl
set_option maxRecDepth 20000 in
theorem aiX9_smallSteps : pm_at pm_P 349 = some iX9_smallSteps := rfl
set_option maxRecDepth 20000 in
theorem aiX9_sorted : pm_at pm_P 350 = some iX9_sorted := rfl
set_option maxRecDepth 20000 in
theorem aiX9_stands : pm_at pm_P 351 = some iX9_stands := rfl
set_option maxRecDepth 20000 in
theorem aiX9_steps : pm_at pm_P 352 = some iX9_steps := rfl
set_option maxRecDepth 20000 in
theorem aiX9_stepsOf : pm_at pm_P 353 = some iX9_stepsOf := rfl
set_option maxRecDepth 20000 in
theorem aiX9_street : pm_at pm_P 354 = some iX9_street := rfl
set_option maxRecDepth 20000 in
theorem aiX9_sum : pm_at pm_P 355 = some iX9_sum := rfl
set_option maxRecDepth 20000 in
theorem aiX9_sumNow : pm_at pm_P 356 = some iX9_sumNow := rfl
set_option maxRecDepth 20000 in
theorem aiX9_swap : pm_at pm_P 357 = some iX9_swap := rfl
set_option maxRecDepth 20000 in
theorem aiX9_takesWord : pm_at pm_P 358 = some iX9_takesWord := rfl
set_option maxRecDepth 20000 in
theorem aiX9_tells : pm_at pm_P 359 = some iX9_tells := rfl
set_option maxRecDepth 20000 in
theorem aiX9_times : pm_at pm_P 360 = some iX9_times := rfl
set_option maxRecDepth 20000 in
theorem aiX9_trade : pm_at pm_P 361 = some iX9_trade := rfl
set_option maxRecDepth 20000 in
theorem aiX9_trades : pm_at pm_P 362 = some iX9_trades := rfl
set_option maxRecDepth 20000 in
theorem aiX9_trees : pm_at pm_P 363 = some iX9_trees := rfl
set_option maxRecDepth 20000 in
theorem aiX9_turned : pm_at pm_P 364 = some iX9_turned := rfl
set_option maxRecDepth 20000 in
theorem aiX9_turnedIn : pm_at pm_P 365 = some iX9_turnedIn := rfl
set_option maxRecDepth 20000 in
theorem aiX9_undo : pm_at pm_P 366 = some iX9_undo := rfl
set_option maxRecDepth 20000 in
theorem aiX9_upset : pm_at pm_P 367 = some iX9_upset := rfl
set_option maxRecDepth 20000 in
theorem aiX9_visit : pm_at pm_P 368 = some iX9_visit := rfl
set_option maxRecDepth 20000 in
theorem aiX9_wanting : pm_at pm_P 369 = some iX9_wanting := rfl
set_option maxRecDepth 20000 in
theorem aiX9_wants : pm_at pm_P 370 = some iX9_wants := rfl
set_option maxRecDepth 20000 in
theorem aiX9_weightOf : pm_at pm_P 371 = some iX9_weightOf := rfl
set_option maxRecDepth 20000 in
theorem aiX9_whyNot : pm_at pm_P 372 = some iX9_whyNot := rfl
set_option maxRecDepth 20000 in
theorem aiX9_whyNotCode : pm_at pm_P 373 = some iX9_whyNotCode := rfl
set_option maxRecDepth 20000 in
theorem aiX9_wish : pm_at pm_P 374 = some iX9_wish := rfl
set_option maxRecDepth 20000 in
theorem aiX9_withJoin : pm_at pm_P 375 = some iX9_withJoin := rfl
set_option maxRecDepth 20000 in
theorem aiX9_worst : pm_at pm_P 376 = some iX9_worst := rfl
set_option maxRecDepth 20000 in
theorem aiX9_worstBy : pm_at pm_P 377 = some iX9_worstBy := rfl
set_option maxRecDepth 20000 in
theorem aiX9_worth : pm_at pm_P 378 = some iX9_worth := rfl
set_option maxRecDepth 20000 in
theorem aiX9_worthOf : pm_at pm_P 379 = some iX9_worthOf := rfl
set_option maxRecDepth 20000 in
theorem aiX9_write : pm_at pm_P 380 = some iX9_write := rfl
noncomputable def lb_0 (L : Nat) (xs : Nat → Int32) : List (Nat × pm_I) := [(0, .inl (s_new 8 dfX8 12 3)), (3, .inl (s_dup 4)), (4, .inr (.inl (122, 1, some 8, 76, 2027))), (7, .inl (s_as 1 8)), (8, .inl (s_new 9 dfX9 45 11)), (11, .inl (s_dup 12)), (12, .inr (.inl (262, 1, some 9, 25, 1495))), (15, .inl (s_as 2 16)), (16, .inl (s_const (.int 0) 17)), (17, .inl (s_is 3 18)), (18, .inl (s_il 3 19)), (19, .inl (s_al 0 20)), (20, .inl (s_slen L 21)), (21, .inl (s_const (.int 6) 23)), (23, .inl (s_bin (fun x y => x - y) 24)), (24, .inl (s_icmp (fun x y => decide (y < x)) 2398 27)), (27, .inl (s_al 0 28)), (28, .inl (s_il 3 29)), (29, .inl (s_sld L xs 30)), (30, .inl (s_const (.int 127) 32)), (32, .inl (s_bin (fun x y => x &&& y) 33)), (33, .inl (s_tsw 0 81 [376, 439, 462, 475, 498, 531, 554, 577, 590, 603, 626, 639, 652, 665, 678, 701, 714, 727, 740, 753, 776, 789, 802, 835, 858, 881, 904, 927, 940, 953, 976, 999, 1012, 1035, 1068, 1101, 1134, 1157, 1180, 1213, 1246, 1279, 1302, 1325, 1338, 1361, 1374, 1407, 1440, 1453, 1476, 1509, 1522, 1535, 1548, 1561, 1574, 1587, 1620, 1653, 1686, 1709, 1732, 1745, 1768, 1801, 1834, 1887, 1920, 1943, 1976, 2009, 2022, 2035, 2068, 2111, 2144, 2167, 2190, 2213, 2256, 2329] 2392))]
