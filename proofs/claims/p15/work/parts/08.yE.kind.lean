/-! THE EXECUTOR (second writing), part 14: every kind of row with its cover -/
section AIR
variable {w : AW}
noncomputable def R_no (f : pm_S → Option pm_S) : ARow w := ⟨(f, fun _ => none), fun _ _ _ _ _ h => by cases h⟩
noncomputable def R_const (v : Value) (n : Nat) : ARow w := ⟨(s_const v n, a_const v n), a_const_ok v n⟩
noncomputable def R_il (i n : Nat) : ARow w := ⟨(s_il i n, a_il i n), a_il_ok i n⟩
noncomputable def R_ll (i n : Nat) : ARow w := ⟨(s_ll i n, a_ll i n), a_ll_ok i n⟩
noncomputable def R_al (i n : Nat) : ARow w := ⟨(s_al i n, a_al i n), a_al_ok i n⟩
noncomputable def R_is (i n : Nat) : ARow w := ⟨(s_is i n, a_is i n), a_is_ok i n⟩
noncomputable def R_ls (i n : Nat) : ARow w := ⟨(s_ls i n, a_ls i n), a_ls_ok i n⟩
noncomputable def R_as (i n : Nat) : ARow w := ⟨(s_as i n, a_as i n), a_as_ok i n⟩
noncomputable def R_inc (i : Nat) (d : Int32) (n : Nat) : ARow w := ⟨(s_inc i d n, a_inc i d n), a_inc_ok i d n⟩
noncomputable def R_goto (n : Nat) : ARow w := ⟨(s_goto n, a_goto n), a_goto_ok n⟩
noncomputable def R_dup (n : Nat) : ARow w := ⟨(s_dup n, a_dup n), a_dup_ok n⟩
noncomputable def R_dup2 (n : Nat) : ARow w := ⟨(s_dup2 n, a_dup2 n), a_dup2_ok n⟩
noncomputable def R_pop (n : Nat) : ARow w := ⟨(s_pop n, a_pop n), a_pop_ok n⟩
noncomputable def R_pop2 (n : Nat) : ARow w := ⟨(s_pop2 n, a_pop2 n), a_pop2_ok n⟩
noncomputable def R_i2l (n : Nat) : ARow w := ⟨(s_i2l n, a_i2l n), a_i2l_ok n⟩
noncomputable def R_l2i (n : Nat) : ARow w := ⟨(s_l2i n, a_l2i n), a_l2i_ok n⟩
noncomputable def R_lcmp (n : Nat) : ARow w := ⟨(s_lcmp n, a_lcmp n), a_lcmp_ok n⟩
noncomputable def R_tald (n : Nat) : ARow w := ⟨(s_tald n, a_tald n), a_tald_ok n⟩
noncomputable def R_sval (n : Nat) : ARow w := ⟨(s_sval n, a_sval n), a_sval_ok n⟩
noncomputable def R_scod (n : Nat) : ARow w := ⟨(s_scod n, a_scod n), a_scod_ok n⟩
noncomputable def R_sblen (n : Nat) : ARow w := ⟨(s_sblen n, a_sblen n), a_sblen_ok n⟩
noncomputable def R_sbald (n : Nat) : ARow w := ⟨(s_sbald n, a_sbald n), a_sbald_ok n⟩
noncomputable def R_add (n : Nat) : ARow w := ⟨(s_bin (fun x y => x + y) n, a_add n), a_add_ok n⟩
noncomputable def R_sub (n : Nat) : ARow w := ⟨(s_bin (fun x y => x - y) n, a_sub n), a_sub_ok n⟩
noncomputable def R_mul (n : Nat) : ARow w := ⟨(s_bin (fun x y => x * y) n, a_bin (bo (fun x y => x * y) fb_mul) n), a_bin_ok n (bo_okx (fb_mul_ok))⟩
noncomputable def R_and (n : Nat) : ARow w := ⟨(s_bin (fun x y => x &&& y) n, a_bin (bo (fun x y => x &&& y) fb_and) n), a_bin_ok n (bo_okx (fb_and_ok))⟩
noncomputable def R_or (n : Nat) : ARow w := ⟨(s_bin (fun x y => x ||| y) n, a_bin (bo (fun x y => x ||| y) fb_or) n), a_bin_ok n (bo_okx (fb_or_ok))⟩
noncomputable def R_xor (n : Nat) : ARow w := ⟨(s_bin (fun x y => x ^^^ y) n, a_bin (bo (fun x y => x ^^^ y) fb_xor) n), a_bin_ok n (bo_okx (fb_xor_ok))⟩
noncomputable def R_shl (n : Nat) : ARow w := ⟨(s_bin (fun x y => x <<< (y &&& 31)) n, a_bin (bo (fun x y => x <<< (y &&& 31)) fb_shl) n), a_bin_ok n (bo_okx (fb_shl_ok))⟩
noncomputable def R_shr (n : Nat) : ARow w := ⟨(s_bin (fun x y => x >>> (y &&& 31)) n, a_bin (bo (fun x y => x >>> (y &&& 31)) fb_top) n), a_bin_ok n (bo_okx (fb_top_ok _))⟩
noncomputable def R_ushr (n : Nat) : ARow w := ⟨(s_bin (fun x y => (x.toUInt32 >>> (y.toUInt32 &&& Int32.toUInt32 31)).toInt32) n, a_bin (bo (fun x y => (x.toUInt32 >>> (y.toUInt32 &&& Int32.toUInt32 31)).toInt32) fb_top) n), a_bin_ok n (bo_okx (fb_top_ok _))⟩
noncomputable def R_idiv (n : Nat) : ARow w := ⟨(s_div (fun x y => x / y) n, a_div (bo (fun x y => x / y) fb_div) n), a_div_ok n (bd_okx fb_div_ok)⟩
noncomputable def R_irem (n : Nat) : ARow w := ⟨(s_div (fun x y => x - x / y * y) n, a_div (bo (fun x y => x - x / y * y) fb_rem) n), a_div_ok n (bd_okx fb_rem_ok)⟩
noncomputable def R_i2b (n : Nat) : ARow w := ⟨(s_un (fun x => x.toInt8.toInt32) n, a_nar (-128) 127 n), a_i2b_ok n⟩
noncomputable def R_i2s (n : Nat) : ARow w := ⟨(s_un (fun x => x.toInt16.toInt32) n, a_nar (-32768) 32767 n), a_i2s_ok n⟩
noncomputable def R_i2c (n : Nat) : ARow w := ⟨(s_un (fun x => (x.toUInt32 % 65536).toInt32) n, a_nar 0 65535 n), a_i2c_ok n⟩
noncomputable def R_neg (n : Nat) : ARow w := ⟨(s_un (fun x => -x) n, a_neg n), a_neg_ok n⟩
noncomputable def R_lneg (n : Nat) : ARow w := ⟨(s_lun (fun x => -x) n, a_lneg n), a_lneg_ok n⟩
noncomputable def R_ladd (n : Nat) : ARow w := ⟨(s_lbin (fun x y => x + y) n, a_lbin fl_add n), a_lbin_ok n fl_add_ok⟩
noncomputable def R_lsub (n : Nat) : ARow w := ⟨(s_lbin (fun x y => x - y) n, a_lbin fl_sub n), a_lbin_ok n fl_sub_ok⟩
noncomputable def R_lmul (n : Nat) : ARow w := ⟨(s_lbin (fun x y => x * y) n, a_lbin fl_mul n), a_lbin_ok n fl_mul_ok⟩
noncomputable def R_land (n : Nat) : ARow w := ⟨(s_lbin (fun x y => x &&& y) n, a_lbin fl_top n), a_lbin_ok n (fl_top_ok _)⟩
noncomputable def R_lor (n : Nat) : ARow w := ⟨(s_lbin (fun x y => x ||| y) n, a_lbin fl_top n), a_lbin_ok n (fl_top_ok _)⟩
noncomputable def R_ldiv (n : Nat) : ARow w := ⟨(s_ldiv (fun x y => x / y) n, a_ldiv fl_top n), a_ldiv_ok n (ld_top_ok _)⟩
noncomputable def R_lrem (n : Nat) : ARow w := ⟨(s_ldiv (fun x y => x - x / y * y) n, a_ldiv fl_top n), a_ldiv_ok n (ld_top_ok _)⟩
noncomputable def R_lshl (n : Nat) : ARow w := ⟨(s_lsh (fun x y => x <<< (y.toInt64 &&& 63)) n, fun _ => none), fun _ _ _ _ _ h => by cases h⟩
theorem z32 : (0 : Int32).toInt = 0 := rfl
noncomputable def R_if1_eq (t n : Nat) : ARow w := ⟨(s_if (fun x => decide (x = 0)) t n, a_if1 0 t n), a_if1_ok 0 t n (fun _ => decide_eq_decide.mpr (Int32.toInt_inj.symm))⟩
noncomputable def R_if2_eq (t n : Nat) : ARow w := ⟨(s_icmp (fun x y => decide (x = y)) t n, a_if2 0 t n), a_if2_ok 0 t n (fun _ _ => decide_eq_decide.mpr (Int32.toInt_inj.symm))⟩
noncomputable def R_if1_ne (t n : Nat) : ARow w := ⟨(s_if (fun x => decide (¬ x = 0)) t n, a_if1 1 t n), a_if1_ok 1 t n (fun _ => decide_eq_decide.mpr (not_congr Int32.toInt_inj.symm))⟩
noncomputable def R_if2_ne (t n : Nat) : ARow w := ⟨(s_icmp (fun x y => decide (¬ x = y)) t n, a_if2 1 t n), a_if2_ok 1 t n (fun _ _ => decide_eq_decide.mpr (not_congr Int32.toInt_inj.symm))⟩
noncomputable def R_if1_lt (t n : Nat) : ARow w := ⟨(s_if (fun x => decide (x < 0)) t n, a_if1 2 t n), a_if1_ok 2 t n (fun _ => decide_eq_decide.mpr (Int32.lt_iff_toInt_lt))⟩
noncomputable def R_if2_lt (t n : Nat) : ARow w := ⟨(s_icmp (fun x y => decide (x < y)) t n, a_if2 2 t n), a_if2_ok 2 t n (fun _ _ => decide_eq_decide.mpr (Int32.lt_iff_toInt_lt))⟩
noncomputable def R_if1_ge (t n : Nat) : ARow w := ⟨(s_if (fun x => decide (0 ≤ x)) t n, a_if1 3 t n), a_if1_ok 3 t n (fun _ => decide_eq_decide.mpr (Int32.le_iff_toInt_le))⟩
noncomputable def R_if2_ge (t n : Nat) : ARow w := ⟨(s_icmp (fun x y => decide (y ≤ x)) t n, a_if2 3 t n), a_if2_ok 3 t n (fun _ _ => decide_eq_decide.mpr (Int32.le_iff_toInt_le))⟩
noncomputable def R_if1_gt (t n : Nat) : ARow w := ⟨(s_if (fun x => decide (0 < x)) t n, a_if1 4 t n), a_if1_ok 4 t n (fun _ => decide_eq_decide.mpr (Int32.lt_iff_toInt_lt))⟩
noncomputable def R_if2_gt (t n : Nat) : ARow w := ⟨(s_icmp (fun x y => decide (y < x)) t n, a_if2 4 t n), a_if2_ok 4 t n (fun _ _ => decide_eq_decide.mpr (Int32.lt_iff_toInt_lt))⟩
noncomputable def R_if1_le (t n : Nat) : ARow w := ⟨(s_if (fun x => decide (x ≤ 0)) t n, a_if1 5 t n), a_if1_ok 5 t n (fun _ => decide_eq_decide.mpr (Int32.le_iff_toInt_le))⟩
noncomputable def R_if2_le (t n : Nat) : ARow w := ⟨(s_icmp (fun x y => decide (x ≤ y)) t n, a_if2 5 t n), a_if2_ok 5 t n (fun _ _ => decide_eq_decide.mpr (Int32.le_iff_toInt_le))⟩
noncomputable def R_tsw (lo hi : Int) (ts : List Nat) (d : Nat) : ARow w := ⟨(s_tsw lo hi ts d, a_tsw lo hi ts d), a_tsw_ok lo hi ts d⟩
noncomputable def R_getf (ci k n : Nat) : ARow w := ⟨(s_getf ci k n, a_getf w ci k n), a_getf_ok ci k n⟩
noncomputable def R_putf (ci k : Nat) (ty : FieldType) (n : Nat) : ARow w := ⟨(s_putf ci k ty n, a_putf w ci k ty n), a_putf_ok ci k ty n⟩
noncomputable def R_iald (n : Nat) : ARow w := ⟨(s_iald n, a_ald w 0 n), a_iald_ok n⟩
noncomputable def R_bald (n : Nat) : ARow w := ⟨(s_bald n, a_ald w 1 n), a_bald_ok n⟩
noncomputable def R_zald (n : Nat) : ARow w := ⟨(s_zald n, a_ald w 2 n), a_zald_ok n⟩
noncomputable def R_iast (n : Nat) : ARow w := ⟨(s_iast n, a_ast w 0 (-2147483648) 2147483647 n), a_iast_ok n⟩
noncomputable def R_bast (n : Nat) : ARow w := ⟨(s_bast n, a_ast w 1 (-128) 127 n), a_bast_ok n⟩
noncomputable def R_zast (n : Nat) : ARow w := ⟨(s_zast n, a_ast w 2 0 1 n), a_zast_ok n⟩
noncomputable def R_lald (n : Nat) : ARow w := ⟨(s_lald n, a_lald w n), a_lald_ok n⟩
noncomputable def R_last (n : Nat) : ARow w := ⟨(s_last n, a_last w n), a_last_ok n⟩
noncomputable def R_aald (t n : Nat) : ARow w := ⟨(s_aald t n, a_aald w t n), a_aald_ok t n⟩
end AIR
