section
section SYH
variable {h : pm_H} {d : Nat} {x y : Int32}
theorem sy_car (hh : HH h) : Sp (d + 1) 114 h [.ref 0, .int x] (fun h' r => h' = h ∧ r = some (.int (zb (0 ≤ x.toInt ∧ x.toInt < (gn h 15 4 : Int))))) := sp_hasCar8 hh
theorem sy_term {w : Int32} : Sp (d + 1) 129 h [.int w] (fun h' r => h' = h ∧ r = some (.int (zb (0 ≤ w.toInt ∧ w.toInt ≤ 1)))) := by
  refine Sp_of aiX8_isTerm rfl rfl rfl ?_
  have L0 : pm_get (lv_args 0 [.int w]) 0 = some (.int w) := rfl
  generalize lv_args 0 [.int w] = lv at L0 ⊢
  refine E_il rfl L0 ?_
  by_cases b1 : w = 0
  · refine E_ifT rfl (decide_eq_true b1) ?_
    refine E_ci 1 rfl ci1 ?_
    refine E_goto rfl ?_
    exact E_rtz rfl (.inr rfl) ⟨rfl, by rw [b1, zb_T (by decide)]⟩
  · refine E_ifF rfl (decide_eq_false b1) ?_
    refine E_il rfl L0 ?_
    refine E_c rfl ?_
    by_cases b2 : w = 1
    · refine E_icF rfl (decide_eq_false (fun q => q b2)) ?_
      refine E_ci 1 rfl ci1 ?_
      refine E_goto rfl ?_
      exact E_rtz rfl (.inr rfl) ⟨rfl, by rw [b2, zb_T (by decide)]⟩
    · refine E_icT rfl (decide_eq_true b2) ?_
      refine E_ci 0 rfl ci0 ?_
      refine E_rtz rfl (.inl rfl) ⟨rfl, ?_⟩
      rw [zb_F]
      rintro ⟨q1, q2⟩
      have z0 : (0 : Int32).toInt = 0 := rfl
      have z1 : (1 : Int32).toInt = 1 := rfl
      rcases (show w.toInt = 0 ∨ w.toInt = 1 by omega) with q | q
      · exact b1 (Int32.toInt_inj.mp (by rw [q, z0]))
      · exact b2 (Int32.toInt_inj.mp (by rw [q, z1]))
theorem sy_fill1 {n : Nat} {k : Int} {M : List Rng} {mm : MB} (q : sum_g w0 (pm_Rt pm_P 4) (42, [cR 72, cR 17, cI k k, cI 0 8, cI 0 3], [], [], M, [([cR 72, cR 17, cI k k, cI 0 8, cI 0 3], mm, [], none)])) (hk : (nJ n).toInt = k) (hM : M.all (fun r => rg_sub SYM r.1 r.2.1 r.2.2) = true) (hh : HH h) (x0 : 0 ≤ x.toInt) (x8 : x.toInt ≤ 8) (y0 : 0 ≤ y.toInt) (y3 : y.toInt ≤ 3) : Sp 4 42 h [.ref 72, .ref 17, .int (nJ n), .int x, .int y] (fun h' r => r = none ∧ HH h' ∧ fr_g SYM h h') := by
  obtain ⟨h', r, p, a, b, C, hC, c⟩ := q h [.ref 72, .ref 17, .int (nJ n), .int x, .int y] hh ⟨rfl, rfl, ⟨Int.le_of_eq hk.symm, Int.le_of_eq hk⟩, ⟨x0, x8⟩, ⟨y0, y3⟩, trivial⟩ (fun _ hq => absurd hq List.not_mem_nil) (fun _ hq => absurd hq List.not_mem_nil)
  cases List.mem_singleton.mp hC
  refine ⟨h', r, p, ?_, a, fr_wk hM b⟩
  obtain ⟨-, -, -, c3⟩ := c
  have c4 : rv_g h' none r := c3
  cases r with
  | none => rfl
  | some v => exact c4.elim
theorem sy_fill {n : Nat} (n1 : 1 ≤ n) (n8 : n ≤ 8) (hh : HH h) (x0 : 0 ≤ x.toInt) (x8 : x.toInt ≤ 8) (y0 : 0 ≤ y.toInt) (y3 : y.toInt ≤ 3) : Sp 4 42 h [.ref 72, .ref 17, .int (nJ n), .int x, .int y] (fun h' r => r = none ∧ HH h' ∧ fr_g SYM h h') := by
  rcases (show n = 1 ∨ n = 2 ∨ n = 3 ∨ n = 4 ∨ n = 5 ∨ n = 6 ∨ n = 7 ∨ n = 8 by omega) with rfl | rfl | rfl | rfl | rfl | rfl | rfl | rfl
  · exact sy_fill1 q710 (by decide) rfl hh x0 x8 y0 y3
  · exact sy_fill1 q694 (by decide) rfl hh x0 x8 y0 y3
  · exact sy_fill1 q692 (by decide) rfl hh x0 x8 y0 y3
  · exact sy_fill1 q690 (by decide) rfl hh x0 x8 y0 y3
  · exact sy_fill1 q688 (by decide) rfl hh x0 x8 y0 y3
  · exact sy_fill1 q686 (by decide) rfl hh x0 x8 y0 y3
  · exact sy_fill1 q684 (by decide) rfl hh x0 x8 y0 y3
  · exact sy_fill1 q682 (by decide) rfl hh x0 x8 y0 y3
theorem sy_frac {z u : Int64} {w : Int32} (hh : HH h) (u1 : 1 ≤ u.toInt) (u2 : u.toInt ≤ 40320) (b0 : 0 ≤ w.toInt) (b1 : w.toInt ≤ 1) : Sp 4 190 h [.long z, .long u, .int w] (fun h' r => HH h' ∧ fr_g [] h h' ∧ ∃ v : Int64, r = some (.long v)) := by
  obtain ⟨h', r, p, a, b, C, hC, c⟩ := sum_up q715 2 h [.long z, .long u, .int w] hh ⟨⟨al_lo z, al_hi z⟩, ⟨u1, u2⟩, ⟨b0, b1⟩, trivial⟩ (fun _ hq => absurd hq List.not_mem_nil) (fun _ hq => absurd hq List.not_mem_nil)
  cases List.mem_singleton.mp hC
  refine ⟨h', r, p, a, b, ?_⟩
  obtain ⟨-, -, -, c3⟩ := c
  have c4 : rv_g h' (some (.inl (cL (-9223372036854775808) 9223372036854775807))) r := c3
  cases r with
  | none => exact c4.elim
  | some v => cases v with
    | long v => exact ⟨v, rfl⟩
    | _ => exact c4.elim
theorem sy_loop {g : pm_H} {n c : Nat} {w : Int32} (hg : HH g) (n8 : n ≤ 8) (hc : c < n) (g4 : gi g 15 4 = nJ n) (b0 : 0 ≤ w.toInt) (b1 : w.toInt ≤ 1) (j : Nat) : ∀ {s : Nat} {z : Int64} (lv : List (Nat × Value)), s + j = 2 ^ n → pm_get lv 0 = some (.ref 0) → pm_get lv 1 = some (.int (nJ c)) → pm_get lv 2 = some (.int w) → pm_get lv 3 = some (.long z) → pm_get lv 5 = some (.int (nJ s)) → Ends (pm_at tX8_share) (pm_Rt pm_P 4) (59, lv, [], g, 0, 0) (fun h' r => HH h' ∧ fr_g [] g h' ∧ ∃ v : Int32, r = some (.int v)) := by
  have q8 : 2 ^ n ≤ 2 ^ 8 := Nat.pow_le_pow_right (by omega) n8
  have q0 : 0 < 2 ^ n := Nat.pow_pos (by omega)
  have e4 : gn g 15 4 = n := by
    have := (sy_i4 hg).2
    have e := (sy_i4 hg).1
    rw [g4] at e
    exact ((nJ_eq (by omega) (by omega)).mp e).symm
  induction j with
  | zero =>
    intro s z lv hj L0 L1 L2 L3 L5
    refine E_il rfl L5 ?_
    refine E_al rfl L0 ?_
    refine E_call rfl (Sp_le (by first | exact Nat.add_le_add_left (Nat.le_of_ble_eq_true rfl) _ | exact Nat.le_of_ble_eq_true rfl | omega) (sy_every (d := 0) hg)) (chkO (a := 0) hg rfl rfl rfl rfl (by show 1 ≤ 8; decide)) (fun h1 r1 => ?_)
    rintro ⟨e1, f1⟩
    rw [e1, f1, e4]
    refine E_icT rfl (decide_eq_true ((nJ_lt (by omega) (by omega)).mpr (by omega))) ?_
    refine E_ll rfl L3 ?_
    refine E_c rfl ?_
    refine E_al rfl L0 ?_
    refine E_ogr (q := 15) rfl hg rfl rfl ?_
    refine E_ogf (q := (0, 8)) rfl hg rfl rfl g4 ?_
    refine sy_tald rfl (by omega) ?_
    refine sy_i2l rfl ?_
    refine E_il rfl L2 ?_
    have fc := sy_fac ⟨n, by omega⟩
    refine E_call rfl (sy_frac (z := z) (w := w) hg fc.1 fc.2 b0 b1) (chkS rfl (by show 0 ≤ 8; decide)) (fun h2 r2 => ?_)
    rintro ⟨hh2, f2, v, e2⟩
    rw [e2]
    refine E_l2i rfl rfl ?_
    exact E_rti rfl ⟨hh2, f2, _, rfl⟩
  | succ j ih =>
    intro s z lv hj L0 L1 L2 L3 L5
    have hs : s < 2 ^ n := by omega
    refine E_il rfl L5 ?_
    refine E_al rfl L0 ?_
    refine E_call rfl (Sp_le (by first | exact Nat.add_le_add_left (Nat.le_of_ble_eq_true rfl) _ | exact Nat.le_of_ble_eq_true rfl | omega) (sy_every (d := 0) hg)) (chkO (a := 0) hg rfl rfl rfl rfl (by show 1 ≤ 8; decide)) (fun h1 r1 => ?_)
    rintro ⟨e1, f1⟩
    rw [e1, f1, e4]
    refine E_icF rfl (decide_eq_false (fun z => absurd ((nJ_lt (by omega) (by omega)).mp z) (by omega))) ?_
    have nx : ∀ (lv : List (Nat × Value)) (z : Int64), pm_get lv 0 = some (.ref 0) → pm_get lv 1 = some (.int (nJ c)) → pm_get lv 2 = some (.int w) → pm_get lv 3 = some (.long z) → pm_get lv 5 = some (.int (nJ s)) → Ends (pm_at tX8_share) (pm_Rt pm_P 4) (143, lv, [], g, 0, 0) (fun h' r => HH h' ∧ fr_g [] g h' ∧ ∃ v : Int32, r = some (.int v)) := by
      intro lv z N0 N1 N2 N3 N5
      refine sy_inc rfl N5 (nJ_inc _) (fun lv2 K5 kp2 => ?_)
      refine E_goto rfl ?_
      exact ih lv2 (by omega) (kp2 0 _ (nbz rfl) (fun q => absurd q (nbz rfl)) N0) (kp2 1 _ (nbz rfl) (fun q => absurd q (nbz rfl)) N1) (kp2 2 _ (nbz rfl) (fun q => absurd q (nbz rfl)) N2) (kp2 3 _ (nbz rfl) (fun q => absurd q (nbz rfl)) N3) K5
    refine E_il rfl L5 ?_
    refine E_il rfl L1 ?_
    refine E_bin rfl rfl ?_
    refine E_ci 1 rfl ci1 ?_
    refine E_bin rfl (bl_bit (by omega) (by omega)) ?_
    cases b : isB s c with
    | true =>
      refine E_ifT rfl (by decide) ?_
      exact nx lv z L0 L1 L2 L3 L5
    | false =>
      refine E_ifF rfl (by decide) ?_
      have pl := sy_pc n8 hs hc b
      have q2 : s ||| 2 ^ c < 2 ^ n := Nat.or_lt_two_pow hs (Nat.pow_lt_pow_right (by omega) hc)
      refine E_il rfl L5 ?_
      refine E_call rfl (Sp_le (by first | exact Nat.add_le_add_left (Nat.le_of_ble_eq_true rfl) _ | exact Nat.le_of_ble_eq_true rfl | omega) (sp_bitCount (d := 0) (x := nJ s))) (chkS rfl (by show 0 ≤ 8; decide)) (fun h2 r2 => ?_)
      rintro ⟨e2, f2⟩
      rw [e2, f2, show bcn (nJ s) = nJ (pcT s) from bcn_tab ⟨s, by omega⟩]
      refine sy_is rfl (fun lv1 K6 kp => ?_)
      have A0 := kp 0 _ (nbz rfl) (fun q => absurd q (nbz rfl)) L0
      have A1 := kp 1 _ (nbz rfl) (fun q => absurd q (nbz rfl)) L1
      have A2 := kp 2 _ (nbz rfl) (fun q => absurd q (nbz rfl)) L2
      have A3 := kp 3 _ (nbz rfl) (fun q => absurd q (nbz rfl)) L3
      have A5 := kp 5 _ (nbz rfl) (fun _ => rfl) L5
      refine E_c rfl ?_
      refine E_il rfl K6 ?_
      refine sy_tald rfl (by omega) ?_
      refine sy_i2l rfl ?_
      refine E_c rfl ?_
      refine E_al rfl A0 ?_
      refine E_ogr (q := 15) rfl hg rfl rfl ?_
      refine E_ogf (q := (0, 8)) rfl hg rfl rfl g4 ?_
      refine E_ci 1 rfl ci1 ?_
      refine E_bin rfl (nJ_sub (by omega)) ?_
      refine E_il rfl K6 ?_
      refine E_bin rfl (nJ_sub (by omega)) ?_
      refine sy_tald rfl (by omega) ?_
      refine sy_i2l rfl ?_
      refine sy_lb rfl ?_
      refine sy_ls rfl (fun lv2 K7 kp2 => ?_)
      replace A0 := kp2 0 _ (nbz rfl) (nbz rfl) (fun q => absurd q (nbz rfl)) A0
      replace A1 := kp2 1 _ (nbz rfl) (nbz rfl) (fun q => absurd q (nbz rfl)) A1
      replace A2 := kp2 2 _ (nbz rfl) (nbz rfl) (fun q => absurd q (nbz rfl)) A2
      replace A3 := kp2 3 _ (nbz rfl) (nbz rfl) (fun q => absurd q (nbz rfl)) A3
      replace A5 := kp2 5 _ (nbz rfl) (nbz rfl) (fun q => absurd q (nbz rfl)) A5
      refine E_ll rfl A3 ?_
      refine E_ll rfl K7 ?_
      refine E_al rfl A0 ?_
      refine E_ogr (q := 72) rfl hg rfl rfl ?_
      refine E_ogr (q := 74) rfl hg rfl rfl ?_
      refine E_il rfl A5 ?_
      refine E_ci 1 rfl ci1 ?_
      refine E_il rfl A1 ?_
      refine E_bin rfl (show nJ 1 <<< (nJ c &&& 31) = nJ (2 ^ c) from bl_shl ⟨c, by omega⟩) ?_
      refine E_bin rfl (bl_or _ _) ?_
      refine E_ial rfl hg rfl (by omega) (by decide) rfl ?_
      refine E_al rfl A0 ?_
      refine E_ogr (q := 72) rfl hg rfl rfl ?_
      refine E_ogr (q := 74) rfl hg rfl rfl ?_
      refine E_il rfl A5 ?_
      refine E_ial rfl hg rfl (by omega) (by decide) rfl ?_
      refine E_bin rfl rfl ?_
      refine sy_i2l rfl ?_
      refine sy_lb rfl ?_
      refine sy_lb rfl ?_
      refine sy_ls rfl (fun lv3 K3 kp3 => ?_)
      exact nx lv3 _ (kp3 0 _ (nbz rfl) (nbz rfl) (fun q => absurd q (nbz rfl)) A0) (kp3 1 _ (nbz rfl) (nbz rfl) (fun q => absurd q (nbz rfl)) A1) (kp3 2 _ (nbz rfl) (nbz rfl) (fun _ => rfl) A2) K3 (kp3 5 _ (nbz rfl) (nbz rfl) (fun q => absurd q (nbz rfl)) A5)
end SYH
end
