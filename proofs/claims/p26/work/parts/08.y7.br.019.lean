section
section AIR
variable {w : AW}
noncomputable def R_pop (n : Nat) : ARow w := ⟨(s_pop n, a_pop n, ck_1 87 n), (a_pop_ok n), ck_1_ok (g := s_pop) (fun _ _ _ _ _ h => k_pop (dk_pop h)) n⟩
noncomputable def R_i2l (n : Nat) : ARow w := ⟨(s_i2l n, a_i2l n, ck_1 133 n), (a_i2l_ok n), ck_1_ok (g := s_i2l) (fun _ _ _ _ _ h => k_i2l (dk_i2l h)) n⟩
noncomputable def R_l2i (n : Nat) : ARow w := ⟨(s_l2i n, a_l2i n, ck_1 136 n), (a_l2i_ok n), ck_1_ok (g := s_l2i) (fun _ _ _ _ _ h => k_l2i (dk_l2i h)) n⟩
noncomputable def R_lcmp (n : Nat) : ARow w := ⟨(s_lcmp n, a_lcmp n, ck_1 148 n), (a_lcmp_ok n), ck_1_ok (g := s_lcmp) (fun _ _ _ _ _ h => k_lcmp (dk_lcmp h)) n⟩
noncomputable def R_tald (n : Nat) : ARow w := ⟨(s_tald n, a_tald n, ck_1 46 n), (a_tald_ok n), ck_1_ok (g := s_tald) (fun _ _ _ _ _ h => k_tald (dk_iaload h)) n⟩
noncomputable def R_sval (n : Nat) : ARow w := ⟨(s_sval n, a_sval n, ck_no), (a_sval_ok n), ck_no_ok⟩
noncomputable def R_scod (n : Nat) : ARow w := ⟨(s_scod n, a_scod n, ck_no), (a_scod_ok n), ck_no_ok⟩
noncomputable def R_sblen (n : Nat) : ARow w := ⟨(s_sblen n, a_sblen n, ck_1 190 n), (a_sblen_ok n), ck_1_ok (g := s_sblen) (fun _ _ _ _ _ h => k_sblen (dk_arraylength h)) n⟩
noncomputable def R_sbald (n : Nat) : ARow w := ⟨(s_sbald n, a_sbald n, ck_1 51 n), (a_sbald_ok n), ck_1_ok (g := s_sbald) (fun _ _ _ _ _ h => k_sbald (dk_baload h)) n⟩
noncomputable def R_add (n : Nat) : ARow w := ⟨(s_bin (fun x y => x + y) n, a_add n, ck_1 96 n), (a_add_ok n), ck_1_ok (g := s_bin (fun x y => x + y)) (fun _ _ _ _ _ h => k_iadd (dk_iadd h)) n⟩
noncomputable def R_sub (n : Nat) : ARow w := ⟨(s_bin (fun x y => x - y) n, a_sub n, ck_1 100 n), (a_sub_ok n), ck_1_ok (g := s_bin (fun x y => x - y)) (fun _ _ _ _ _ h => k_isub (dk_isub h)) n⟩
noncomputable def R_mul (n : Nat) : ARow w := ⟨(s_bin (fun x y => x * y) n, a_bin (bo (fun x y => x * y) fb_mul) n, ck_1 104 n), (a_bin_ok n (bo_okx (fb_mul_ok))), ck_1_ok (g := s_bin (fun x y => x * y)) (fun _ _ _ _ _ h => k_imul (dk_imul h)) n⟩
noncomputable def R_and (n : Nat) : ARow w := ⟨(s_bin (fun x y => x &&& y) n, a_bin (bo (fun x y => x &&& y) fb_and) n, ck_1 126 n), (a_bin_ok n (bo_okx (fb_and_ok))), ck_1_ok (g := s_bin (fun x y => x &&& y)) (fun _ _ _ _ _ h => k_iand (dk_iand h)) n⟩
noncomputable def R_or (n : Nat) : ARow w := ⟨(s_bin (fun x y => x ||| y) n, a_bin (bo (fun x y => x ||| y) fb_or) n, ck_1 128 n), (a_bin_ok n (bo_okx (fb_or_ok))), ck_1_ok (g := s_bin (fun x y => x ||| y)) (fun _ _ _ _ _ h => k_ior (dk_ior h)) n⟩
noncomputable def R_xor (n : Nat) : ARow w := ⟨(s_bin (fun x y => x ^^^ y) n, a_bin (bo (fun x y => x ^^^ y) fb_xor) n, ck_1 130 n), (a_bin_ok n (bo_okx (fb_xor_ok))), ck_1_ok (g := s_bin (fun x y => x ^^^ y)) (fun _ _ _ _ _ h => k_ixor (dk_ixor h)) n⟩
noncomputable def R_shl (n : Nat) : ARow w := ⟨(s_bin (fun x y => x <<< (y &&& 31)) n, a_bin (bo (fun x y => x <<< (y &&& 31)) fb_shl) n, ck_1 120 n), (a_bin_ok n (bo_okx (fb_shl_ok))), ck_1_ok (g := s_bin (fun x y => x <<< (y &&& 31))) (fun _ _ _ _ _ h => k_ishl (dk_ishl h)) n⟩
noncomputable def R_shr (n : Nat) : ARow w := ⟨(s_bin (fun x y => x >>> (y &&& 31)) n, a_bin (bo (fun x y => x >>> (y &&& 31)) fb_top) n, ck_1 122 n), (a_bin_ok n (bo_okx (fb_top_ok _))), ck_1_ok (g := s_bin (fun x y => x >>> (y &&& 31))) (fun _ _ _ _ _ h => k_ishr (dk_ishr h)) n⟩
noncomputable def R_ushr (n : Nat) : ARow w := ⟨(s_bin (fun x y => (x.toUInt32 >>> (y.toUInt32 &&& Int32.toUInt32 31)).toInt32) n, a_bin (bo (fun x y => (x.toUInt32 >>> (y.toUInt32 &&& Int32.toUInt32 31)).toInt32) fb_top) n, ck_1 124 n), (a_bin_ok n (bo_okx (fb_top_ok _))), ck_1_ok (g := s_bin (fun x y => (x.toUInt32 >>> (y.toUInt32 &&& Int32.toUInt32 31)).toInt32)) (fun _ _ _ _ _ h => k_iushr (dk_iushr h)) n⟩
noncomputable def R_idiv (n : Nat) : ARow w := ⟨(s_div (fun x y => x / y) n, a_div (bo (fun x y => x / y) fb_div) n, ck_1 108 n), (a_div_ok n (bd_okx fb_div_ok)), ck_1_ok (g := s_div (fun x y => x / y)) (fun _ _ _ _ _ h => k_idiv (dk_idiv h)) n⟩
noncomputable def R_irem (n : Nat) : ARow w := ⟨(s_div (fun x y => x - x / y * y) n, a_div (bo (fun x y => x - x / y * y) fb_rem) n, ck_1 112 n), (a_div_ok n (bd_okx fb_rem_ok)), ck_1_ok (g := s_div (fun x y => x - x / y * y)) (fun _ _ _ _ _ h => k_irem (dk_irem h)) n⟩
noncomputable def R_i2b (n : Nat) : ARow w := ⟨(s_un (fun x => x.toInt8.toInt32) n, a_nar (-128) 127 n, ck_1 145 n), (a_i2b_ok n), ck_1_ok (g := s_un (fun x => x.toInt8.toInt32)) (fun _ _ _ _ _ h => k_i2b (dk_i2b h)) n⟩
noncomputable def R_i2s (n : Nat) : ARow w := ⟨(s_un (fun x => x.toInt16.toInt32) n, a_nar (-32768) 32767 n, ck_1 147 n), (a_i2s_ok n), ck_1_ok (g := s_un (fun x => x.toInt16.toInt32)) (fun _ _ _ _ _ h => k_i2s (dk_i2s h)) n⟩
noncomputable def R_i2c (n : Nat) : ARow w := ⟨(s_un (fun x => (x.toUInt32 % 65536).toInt32) n, a_nar 0 65535 n, ck_1 146 n), (a_i2c_ok n), ck_1_ok (g := s_un (fun x => (x.toUInt32 % 65536).toInt32)) (fun _ _ _ _ _ h => k_i2c (dk_i2c h)) n⟩
noncomputable def R_neg (n : Nat) : ARow w := ⟨(s_un (fun x => -x) n, a_neg n, ck_1 116 n), (a_neg_ok n), ck_1_ok (g := s_un (fun x => -x)) (fun _ _ _ _ _ h => k_ineg (dk_ineg h)) n⟩
noncomputable def R_lneg (n : Nat) : ARow w := ⟨(s_lun (fun x => -x) n, a_lneg n, ck_1 117 n), (a_lneg_ok n), ck_1_ok (g := s_lun (fun x => -x)) (fun _ _ _ _ _ h => k_lneg (dk_lneg h)) n⟩
noncomputable def R_ladd (n : Nat) : ARow w := ⟨(s_lbin (fun x y => x + y) n, a_lbin fl_add n, ck_1 97 n), (a_lbin_ok n fl_add_ok), ck_1_ok (g := s_lbin (fun x y => x + y)) (fun _ _ _ _ _ h => k_ladd (dk_ladd h)) n⟩
noncomputable def R_lsub (n : Nat) : ARow w := ⟨(s_lbin (fun x y => x - y) n, a_lbin fl_sub n, ck_1 101 n), (a_lbin_ok n fl_sub_ok), ck_1_ok (g := s_lbin (fun x y => x - y)) (fun _ _ _ _ _ h => k_lsub (dk_lsub h)) n⟩
noncomputable def R_lmul (n : Nat) : ARow w := ⟨(s_lbin (fun x y => x * y) n, a_lbin fl_mul n, ck_1 105 n), (a_lbin_ok n fl_mul_ok), ck_1_ok (g := s_lbin (fun x y => x * y)) (fun _ _ _ _ _ h => k_lmul (dk_lmul h)) n⟩
noncomputable def R_land (n : Nat) : ARow w := ⟨(s_lbin (fun x y => x &&& y) n, a_lbin fl_top n, ck_1 127 n), (a_lbin_ok n (fl_top_ok _)), ck_1_ok (g := s_lbin (fun x y => x &&& y)) (fun _ _ _ _ _ h => k_land (dk_land h)) n⟩
end AIR
end
