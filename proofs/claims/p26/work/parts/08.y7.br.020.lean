section
section AIR
variable {w : AW}
noncomputable def R_ldiv (n : Nat) : ARow w := ⟨(s_ldiv (fun x y => x / y) n, a_ldiv fl_top n, ck_1 109 n), (a_ldiv_ok n (ld_top_ok _)), ck_1_ok (g := s_ldiv (fun x y => x / y)) (fun _ _ _ _ _ h => k_ldiv (dk_ldiv h)) n⟩
noncomputable def R_lrem (n : Nat) : ARow w := ⟨(s_ldiv (fun x y => x - x / y * y) n, a_ldiv fl_top n, ck_1 113 n), (a_ldiv_ok n (ld_top_ok _)), ck_1_ok (g := s_ldiv (fun x y => x - x / y * y)) (fun _ _ _ _ _ h => k_lrem (dk_lrem h)) n⟩
noncomputable def R_if1_eq (t n : Nat) : ARow w := ⟨(s_if (fun x => decide (x = 0)) t n, a_if1 0 t n, ck_if 153 t n), (a_if1_ok 0 t n (fun _ => decide_eq_decide.mpr (Int32.toInt_inj.symm))), ck_if_ok (g := s_if (fun x => decide (x = 0))) (fun _ _ _ _ _ _ _ h e => k_if_eq (dk_ifCond_eq h) e) t n⟩
noncomputable def R_if2_eq (t n : Nat) : ARow w := ⟨(s_icmp (fun x y => decide (x = y)) t n, a_if2 0 t n, ck_if 159 t n), (a_if2_ok 0 t n (fun _ _ => decide_eq_decide.mpr (Int32.toInt_inj.symm))), ck_if_ok (g := s_icmp (fun x y => decide (x = y))) (fun _ _ _ _ _ _ _ h e => k_icmp_eq (dk_if_icmp_eq h) e) t n⟩
noncomputable def R_if1_ne (t n : Nat) : ARow w := ⟨(s_if (fun x => decide (¬ x = 0)) t n, a_if1 1 t n, ck_if 154 t n), (a_if1_ok 1 t n (fun _ => decide_eq_decide.mpr (not_congr Int32.toInt_inj.symm))), ck_if_ok (g := s_if (fun x => decide (¬ x = 0))) (fun _ _ _ _ _ _ _ h e => k_if_ne (dk_ifCond_ne h) e) t n⟩
noncomputable def R_if2_ne (t n : Nat) : ARow w := ⟨(s_icmp (fun x y => decide (¬ x = y)) t n, a_if2 1 t n, ck_if 160 t n), (a_if2_ok 1 t n (fun _ _ => decide_eq_decide.mpr (not_congr Int32.toInt_inj.symm))), ck_if_ok (g := s_icmp (fun x y => decide (¬ x = y))) (fun _ _ _ _ _ _ _ h e => k_icmp_ne (dk_if_icmp_ne h) e) t n⟩
noncomputable def R_if1_lt (t n : Nat) : ARow w := ⟨(s_if (fun x => decide (x < 0)) t n, a_if1 2 t n, ck_if 155 t n), (a_if1_ok 2 t n (fun _ => decide_eq_decide.mpr (Int32.lt_iff_toInt_lt))), ck_if_ok (g := s_if (fun x => decide (x < 0))) (fun _ _ _ _ _ _ _ h e => k_if_lt (dk_ifCond_lt h) e) t n⟩
noncomputable def R_if2_lt (t n : Nat) : ARow w := ⟨(s_icmp (fun x y => decide (x < y)) t n, a_if2 2 t n, ck_if 161 t n), (a_if2_ok 2 t n (fun _ _ => decide_eq_decide.mpr (Int32.lt_iff_toInt_lt))), ck_if_ok (g := s_icmp (fun x y => decide (x < y))) (fun _ _ _ _ _ _ _ h e => k_icmp_lt (dk_if_icmp_lt h) e) t n⟩
noncomputable def R_if1_ge (t n : Nat) : ARow w := ⟨(s_if (fun x => decide (0 ≤ x)) t n, a_if1 3 t n, ck_if 156 t n), (a_if1_ok 3 t n (fun _ => decide_eq_decide.mpr (Int32.le_iff_toInt_le))), ck_if_ok (g := s_if (fun x => decide (0 ≤ x))) (fun _ _ _ _ _ _ _ h e => k_if_ge (dk_ifCond_ge h) e) t n⟩
noncomputable def R_if2_ge (t n : Nat) : ARow w := ⟨(s_icmp (fun x y => decide (y ≤ x)) t n, a_if2 3 t n, ck_if 162 t n), (a_if2_ok 3 t n (fun _ _ => decide_eq_decide.mpr (Int32.le_iff_toInt_le))), ck_if_ok (g := s_icmp (fun x y => decide (y ≤ x))) (fun _ _ _ _ _ _ _ h e => k_icmp_ge (dk_if_icmp_ge h) e) t n⟩
noncomputable def R_if1_gt (t n : Nat) : ARow w := ⟨(s_if (fun x => decide (0 < x)) t n, a_if1 4 t n, ck_if 157 t n), (a_if1_ok 4 t n (fun _ => decide_eq_decide.mpr (Int32.lt_iff_toInt_lt))), ck_if_ok (g := s_if (fun x => decide (0 < x))) (fun _ _ _ _ _ _ _ h e => k_if_gt (dk_ifCond_gt h) e) t n⟩
noncomputable def R_if2_gt (t n : Nat) : ARow w := ⟨(s_icmp (fun x y => decide (y < x)) t n, a_if2 4 t n, ck_if 163 t n), (a_if2_ok 4 t n (fun _ _ => decide_eq_decide.mpr (Int32.lt_iff_toInt_lt))), ck_if_ok (g := s_icmp (fun x y => decide (y < x))) (fun _ _ _ _ _ _ _ h e => k_icmp_gt (dk_if_icmp_gt h) e) t n⟩
noncomputable def R_if1_le (t n : Nat) : ARow w := ⟨(s_if (fun x => decide (x ≤ 0)) t n, a_if1 5 t n, ck_if 158 t n), (a_if1_ok 5 t n (fun _ => decide_eq_decide.mpr (Int32.le_iff_toInt_le))), ck_if_ok (g := s_if (fun x => decide (x ≤ 0))) (fun _ _ _ _ _ _ _ h e => k_if_le (dk_ifCond_le h) e) t n⟩
noncomputable def R_if2_le (t n : Nat) : ARow w := ⟨(s_icmp (fun x y => decide (x ≤ y)) t n, a_if2 5 t n, ck_if 164 t n), (a_if2_ok 5 t n (fun _ _ => decide_eq_decide.mpr (Int32.le_iff_toInt_le))), ck_if_ok (g := s_icmp (fun x y => decide (x ≤ y))) (fun _ _ _ _ _ _ _ h e => k_icmp_le (dk_if_icmp_le h) e) t n⟩
noncomputable def R_tsw (lo hi : Int) (ts : List Nat) (d : Nat) : ARow w := ⟨(s_tsw lo hi ts d, a_tsw lo hi ts d, ck_no), (a_tsw_ok lo hi ts d), ck_no_ok⟩
noncomputable def R_getf (ci k n : Nat) : ARow w := ⟨(s_getf ci k n, a_getf w ci k n, ck_gf ci k n), (a_getf_ok ci k n), ck_gf_ok ci k n⟩
noncomputable def R_putf (ci k : Nat) (ty : FieldType) (n : Nat) : ARow w := ⟨(s_putf ci k ty n, a_putf w ci k ty n, ck_pf ci k ty n), (a_putf_ok ci k ty n), ck_pf_ok ci k ty n⟩
noncomputable def R_iald (n : Nat) : ARow w := ⟨(s_iald n, a_ald w 0 n, ck_1 46 n), (a_iald_ok n), ck_1_ok (g := s_iald) (fun _ _ _ _ _ h => k_iald (dk_iaload h)) n⟩
noncomputable def R_bald (n : Nat) : ARow w := ⟨(s_bald n, a_ald w 1 n, ck_1 51 n), (a_bald_ok n), ck_1_ok (g := s_bald) (fun _ _ _ _ _ h => k_bald (dk_baload h)) n⟩
noncomputable def R_zald (n : Nat) : ARow w := ⟨(s_zald n, a_ald w 2 n, ck_1 51 n), (a_zald_ok n), ck_1_ok (g := s_zald) (fun _ _ _ _ _ h => k_zald (dk_baload h)) n⟩
noncomputable def R_iast (n : Nat) : ARow w := ⟨(s_iast n, a_ast w 0 (-2147483648) 2147483647 n, ck_1 79 n), (a_iast_ok n), ck_1_ok (g := s_iast) (fun _ _ _ _ _ h => k_iast (dk_iastore h)) n⟩
noncomputable def R_bast (n : Nat) : ARow w := ⟨(s_bast n, a_ast w 1 (-128) 127 n, ck_1 84 n), (a_bast_ok n), ck_1_ok (g := s_bast) (fun _ _ _ _ _ h => k_bast (dk_bastore h)) n⟩
noncomputable def R_zast (n : Nat) : ARow w := ⟨(s_zast n, a_ast w 2 0 1 n, ck_1 84 n), (a_zast_ok n), ck_1_ok (g := s_zast) (fun _ _ _ _ _ h => k_zast (dk_bastore h)) n⟩
noncomputable def R_lald (n : Nat) : ARow w := ⟨(s_lald n, a_lald w n, ck_1 47 n), (a_lald_ok n), ck_1_ok (g := s_lald) (fun _ _ _ _ _ h => k_lald (dk_laload h)) n⟩
noncomputable def R_last (n : Nat) : ARow w := ⟨(s_last n, a_last w n, ck_1 80 n), (a_last_ok n), ck_1_ok (g := s_last) (fun _ _ _ _ _ h => k_last (dk_lastore h)) n⟩
noncomputable def R_aald (t n : Nat) : ARow w := ⟨(s_aald t n, a_aald w t n, ck_aa t n), (a_aald_ok t n), ck_aa_ok t n⟩
end AIR
end
section
/-! THE EXECUTOR (second writing), part 15: rows with hints -/
end
