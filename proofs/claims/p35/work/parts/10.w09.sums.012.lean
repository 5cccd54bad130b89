section
noncomputable def S705 : Sum1 := (23, [cI 0 0, cI 1 1], [], [], [], [([cI 0 0, cI 1 1], [], [], some (.inl (cI 1 1)))])
theorem q705 : sum_g w0 (pm_Rt pm_P 1) S705 := meth_okB (d := 0) (cuts := []) (spl := []) (K := [0, 1]) (N := 12) (sums := []) aiX1_isFree (abX1_isFree w0) (by decide) (fun _ h => absurd h List.not_mem_nil) (by decide +kernel)
noncomputable def S706 : Sum1 := (21, [cI 0 8, cI 0 0, cI 1 1], [], [], [], [([cI 1 8, cI 0 0, cI 1 1], [], [], some (.inl (cI 1 1))), ([cI 0 0, cI 0 0, cI 1 1], [], [], some (.inl (cI 0 0)))])
theorem q706 : sum_g w0 (pm_Rt pm_P 2) S706 := meth_okB (d := 1) (cuts := [(2, [([(0, cI 0 8), (1, cI 0 0), (2, cI 1 1), (3, cI 1 1)], [], [], [], [.inl 0])])]) (spl := []) (K := [0, 1, 2]) (N := 10) (sums := [S705]) aiX1_firstFree (abX1_firstFree w0) (by decide) (List.forall_mem_cons.mpr ⟨sum_up q705 0, fun _ h => absurd h List.not_mem_nil⟩) (by decide +kernel)
noncomputable def S707 : Sum1 := (25, [cI 0 3, cI 0 8, cI 0 0, cI 0 8], [], [], [], [([cI 0 3, cI 0 8, cI 0 0, cI 0 8], [], [], some (.inl (cI 0 0))), ([cI 0 3, cI 0 8, cI 0 0, cI 0 8], [], [], some (.inl (cI 0 8))), ([cI 3 3, cI 1 8, cI 0 0, cI 0 8], [], [], some (.inl (cI 1 1)))])
theorem q707 : sum_g w0 (pm_Rt pm_P 3) S707 := meth_okB (d := 2) (cuts := []) (spl := []) (K := [0, 1, 2, 3]) (N := 34) (sums := [S697, S696, S706, S701, S699, S703, S704]) aiX1_spotFor (abX1_spotFor w0) (by decide) (List.forall_mem_cons.mpr ⟨sum_up q697 1, List.forall_mem_cons.mpr ⟨sum_up q696 1, List.forall_mem_cons.mpr ⟨sum_up q706 0, List.forall_mem_cons.mpr ⟨sum_up q701 0, List.forall_mem_cons.mpr ⟨sum_up q699 0, List.forall_mem_cons.mpr ⟨sum_up q703 0, List.forall_mem_cons.mpr ⟨sum_up q704 0, fun _ h => absurd h List.not_mem_nil⟩⟩⟩⟩⟩⟩⟩) (by decide +kernel)
noncomputable def S708 : Sum1 := (160, [cI 1 1], [], [], [], [([cI 1 1], [], [], some (.inl (cI 1 1)))])
theorem q708 : sum_g w0 (pm_Rt pm_P 1) S708 := meth_okB (d := 0) (cuts := []) (spl := []) (K := [0]) (N := 7) (sums := []) aiX8_placeBit (abX8_placeBit w0) (by decide) (fun _ h => absurd h List.not_mem_nil) (by decide +kernel)
noncomputable def S709 : Sum1 := (9, [cI (-7) 1], [], [], [], [([cI (-7) 1], [], [], some (.inl (cI 0 7)))])
theorem q709 : sum_g w0 (pm_Rt pm_P 1) S709 := meth_okB (d := 0) (cuts := []) (spl := []) (K := [0]) (N := 7) (sums := []) aiJ9_abs_0f7a4 (abJ9_abs_0f7a4 w0) (by decide) (fun _ h => absurd h List.not_mem_nil) (by decide +kernel)
noncomputable def S710 : Sum1 := (42, [cR 72, cR 17, cI 1 1, cI 0 8, cI 0 3], [], [], [(73, 0, 1), (74, 0, 1)], [([cR 72, cR 17, cI 1 1, cI 0 8, cI 0 3], [((73, 0), 0, 0), ((74, 0), 0, 0)], [], none)])
theorem q710 : sum_g w0 (pm_Rt pm_P 4) S710 := meth_okB (d := 3) (cuts := [(17, [([(0, cR 72), (1, cR 17), (2, cI 1 1), (3, cI 0 8), (4, cI 0 3), (5, cI 0 1)], [], [((73, 0), 0, 0), ((74, 0), 0, 0)], [], [.inl 0, .inr (.inl 5, true), .inl 1])]), (26, [([(0, cR 72), (1, cR 17), (2, cI 1 1), (3, cI 0 8), (4, cI 0 3), (5, cI 0 0), (6, cI 0 1)], [], [((73, 0), 0, 0), ((74, 0), 0, 0)], [], [.inl 0, .inr (.inl 5, true), .inl 0, .inr (.inl 6, true), .inl 0])])]) (spl := []) (K := [0, 1, 2, 3, 4]) (N := 55) (sums := [S708, S132, S709, S133, S707]) aiX3_fill (abX3_fill w0) (by decide) (List.forall_mem_cons.mpr ⟨sum_up q708 2, List.forall_mem_cons.mpr ⟨sum_up q132 2, List.forall_mem_cons.mpr ⟨sum_up q709 2, List.forall_mem_cons.mpr ⟨sum_up q133 2, List.forall_mem_cons.mpr ⟨sum_up q707 0, fun _ h => absurd h List.not_mem_nil⟩⟩⟩⟩⟩) (by decide +kernel)
noncomputable def S714 : Sum1 := (8, [cL (-9223372036854775808) 9223372036854775807], [], [], [], [([cL (-9223372036854775808) 9223372036854775807], [], [], some (.inl (cL (-9223372036854775808) 9223372036854775807)))])
theorem q714 : sum_g w0 (pm_Rt pm_P 1) S714 := meth_okB (d := 0) (cuts := []) (spl := []) (K := [0]) (N := 9) (sums := []) aiJ9_abs_067f4 (abJ9_abs_067f4 w0) (by decide) (fun _ h => absurd h List.not_mem_nil) (by decide +kernel)
noncomputable def S715 : Sum1 := (190, [cL (-9223372036854775808) 9223372036854775807, cL 1 40320, cI 0 1], [], [], [], [([cL (-9223372036854775808) 9223372036854775807, cL 1 40320, cI 0 1], [], [], some (.inl (cL (-9223372036854775808) 9223372036854775807)))])
theorem q715 : sum_g w0 (pm_Rt pm_P 2) S715 := meth_okB (d := 1) (cuts := [(12, [([(0, cL (-9223372036854775808) 9223372036854775807), (2, cL 1 40320), (4, cI 0 1), (5, cL (-9223372036854775808) 9223372036854775807), (7, cL (-9223372036854775808) 9223372036854775807), (9, cI 0 100)], [], [], [], [.inl 0, .inr (.inl 9, true), .inl 0])])]) (spl := []) (K := [0, 2, 4]) (N := 19) (sums := [S714]) aiX8_term (abX8_term w0) (by decide) (List.forall_mem_cons.mpr ⟨sum_up q714 0, fun _ h => absurd h List.not_mem_nil⟩) (by decide +kernel)
noncomputable def S730 : Sum1 := (177, [cR 0, cI (-2147483648) 2147483647, cI (-2147483648) 2147483647], [], [], [(73, 0, 255), (74, 0, 255)], [([cR 0, cI (-2147483648) 2147483647, cI (-2147483648) 2147483647], [], [], some (.inl (cI (-2147483648) 2147483647)))])
/-! the class's share by hand, but for its answer (q730) -/
noncomputable def SYM : List Rng := [(73, 0, 255), (74, 0, 255)]
theorem sy_ck : (List.range 9).all (fun n => (List.range (2 ^ n)).all (fun s => Nat.blt (pcT s) n || Nat.beq s (2 ^ n - 1))) = true := by decide +kernel
theorem sy_full : ∀ n : Fin 9, ∀ c : Fin 9, c.val < n.val → isB (2 ^ n.val - 1) c.val = true := by decide +kernel
theorem sy_pc {n s c : Nat} (n8 : n ≤ 8) (hs : s < 2 ^ n) (hc : c < n) (b : isB s c = false) : pcT s < n := by
  have a := List.all_eq_true.mp (List.all_eq_true.mp sy_ck n (List.mem_range.mpr (by omega))) s (List.mem_range.mpr hs)
  rw [Bool.or_eq_true] at a
  rcases a with a | a
  · exact Nat.le_of_ble_eq_true a
  · rw [Nat.eq_of_beq_eq_true a, sy_full ⟨n, by omega⟩ ⟨c, by omega⟩ hc] at b; cases b
theorem sy_fac : ∀ k : Fin 9, 1 ≤ (pm_fac k.val).toInt64.toInt ∧ (pm_fac k.val).toInt64.toInt ≤ 40320 := by decide +kernel
section SYE
variable {look : Nat → Option pm_I} {call : pm_Call} {Q : pm_H → Option Value → Prop} {pc n i t : Nat} {lv : List (Nat × Value)} {st : List Value} {w : pm_H × Nat × Nat}
theorem sy_neW {v u : Value} {j : Nat} (hj : j ≠ i) (hc : j + 1 = i → u.category = 1) (e : pm_get lv j = some u) : pm_get (pm_put1 i v lv) j = some u := by
  unfold pm_put1
  refine pm_get_ne hj (pm_get_filter e ?_)
  simp only [Bool.and_eq_true, Bool.not_eq_true', Bool.and_eq_false_iff, beq_eq_false_iff_ne]
  refine ⟨hj, ?_⟩
  by_cases q : j + 1 = i
  · exact .inr (by rw [hc q]; decide)
  · exact .inl q
theorem sy_ne2 {v u : Value} {j : Nat} (hj : j ≠ i) (hj2 : j ≠ i + 1) (hc : j + 1 = i → u.category = 1) (e : pm_get lv j = some u) : pm_get (pm_put2 i v lv) j = some u := by
  unfold pm_put2
  refine pm_get_ne hj (pm_get_filter e ?_)
  simp only [Bool.and_eq_true, Bool.not_eq_true', Bool.and_eq_false_iff, beq_eq_false_iff_ne]
  refine ⟨hj, hj2, ?_⟩
  by_cases q : j + 1 = i
  · exact .inr (by rw [hc q]; decide)
  · exact .inl q
theorem sy_ls {x : Int64} (h1 : look pc = some (.inl (s_ls i n))) (k : ∀ lv' : List (Nat × Value), pm_get lv' i = some (.long x) → (∀ (j : Nat) (u : Value), j ≠ i → j ≠ i + 1 → (j + 1 = i → u.category = 1) → pm_get lv j = some u → pm_get lv' j = some u) → Ends look call (n, lv', st, w) Q) : Ends look call (pc, lv, .long x :: st, w) Q :=
  E_st h1 rfl (k (pm_put2 i (.long x) lv) pm_get_self (fun _ _ a b c e => sy_ne2 a b c e))
theorem sy_is {x : Int32} (h1 : look pc = some (.inl (s_is i n))) (k : ∀ lv' : List (Nat × Value), pm_get lv' i = some (.int x) → (∀ (j : Nat) (u : Value), j ≠ i → (j + 1 = i → u.category = 1) → pm_get lv j = some u → pm_get lv' j = some u) → Ends look call (n, lv', st, w) Q) : Ends look call (pc, lv, .int x :: st, w) Q :=
  E_st h1 rfl (k (pm_put1 i (.int x) lv) pm_get_self (fun _ _ a b c => sy_neW a b c))
theorem sy_inc {x d y : Int32} (h1 : look pc = some (.inl (s_inc i d n))) (e : pm_get lv i = some (.int x)) (ey : x + d = y) (k : ∀ lv' : List (Nat × Value), pm_get lv' i = some (.int y) → (∀ (j : Nat) (u : Value), j ≠ i → (j + 1 = i → u.category = 1) → pm_get lv j = some u → pm_get lv' j = some u) → Ends look call (n, lv', st, w) Q) : Ends look call (pc, lv, st, w) Q := by
  subst ey
  exact E_st h1 (by simp only [s_inc, e]) (k (pm_put1 i (.int (x + d)) lv) pm_get_self (fun _ _ a b c => sy_neW a b c))
theorem sy_lb {op : Int64 → Int64 → Int64} {x y : Int64} (h1 : look pc = some (.inl (s_lbin op n))) (k : Ends look call (n, lv, .long (op x y) :: st, w) Q) : Ends look call (pc, lv, .long y :: .long x :: st, w) Q := E_st h1 rfl k
theorem sy_i2l {x : Int32} (h1 : look pc = some (.inl (s_i2l n))) (k : Ends look call (n, lv, .long x.toInt64 :: st, w) Q) : Ends look call (pc, lv, .int x :: st, w) Q := E_st h1 rfl k
theorem sy_tald {j : Nat} (h1 : look pc = some (.inl (s_tald n))) (hj : j < 9) (k : Ends look call (n, lv, .int (pm_fac j) :: st, w) Q) : Ends look call (pc, lv, .int (nJ j) :: .retAddr 1 :: st, w) Q := by
  have h2 := nJ_toInt (n := j) (by omega)
  have h3 : pm_ix (nJ j) 9 = true := ai_ix (by omega) (by omega)
  have h4 : (nJ j).toNatClampNeg = j := by show (nJ j).toInt.toNat = j; omega
  refine E_st h1 ?_ k
  simp only [s_tald, h3, h4, cond_true]
end SYE
section SYH
variable {h : pm_H} {d : Nat} {x y : Int32}
theorem sy_i4 (hh : HH h) : gi h 15 4 = nJ (gn h 15 4) ∧ gn h 15 4 ≤ 8 := ⟨gi_gn hh rfl (by decide), gn_hi hh rfl (by decide)⟩
theorem sy_every (hh : HH h) : Sp (d + 1) 103 h [.ref 0] (fun h' r => h' = h ∧ r = some (.int (nJ (2 ^ gn h 15 4 - 1)))) := by
  obtain ⟨a3, a4⟩ := sy_i4 hh
  refine Sp_of aiX8_everyCar rfl rfl rfl ?_
  have L0 : pm_get (lv_args 0 [.ref 0]) 0 = some (.ref 0) := rfl
  generalize lv_args 0 [.ref 0] = lv at L0 ⊢
  refine E_ci 1 rfl ci1 ?_
  refine E_al rfl L0 ?_
  refine E_ogr (q := 15) rfl hh rfl rfl ?_
  refine E_ogf (q := (0, 8)) rfl hh rfl rfl a3 ?_
  refine E_bin rfl rfl ?_
  refine E_ci 1 rfl ci1 ?_
  refine E_bin rfl (show nJ 1 <<< (nJ (gn h 15 4) &&& 31) - nJ 1 = nJ (2 ^ gn h 15 4 - 1) from by rw [bl_shl ⟨gn h 15 4, by omega⟩, nJ_sub (Nat.pow_pos (by omega))]) ?_
  exact E_rti rfl ⟨rfl, rfl⟩
end SYH
end
