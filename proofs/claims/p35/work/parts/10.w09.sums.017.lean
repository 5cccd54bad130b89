section
section WYH
variable {h : pm_H}
theorem wy_now (hh : HH h) : Sp 9 356 h [.ref 77] (fun h' r => HH h' ∧ fr_g [] h h' ∧ ∃ v : Int32, r = some (.int v)) := by
  refine Sp_le (by first | exact Nat.add_le_add_left (Nat.le_of_ble_eq_true rfl) _ | exact Nat.le_of_ble_eq_true rfl | omega) (?_ : Sp 3 356 h [.ref 77] _)
  obtain ⟨h', r, p, a, b, C, hC, c⟩ := q172 h [.ref 77] hh ⟨rfl, trivial⟩ (fun _ hq => absurd hq List.not_mem_nil) (fun _ hq => absurd hq List.not_mem_nil)
  cases List.mem_singleton.mp hC
  refine ⟨h', r, p, a, b, ?_⟩
  obtain ⟨-, -, -, c3⟩ := c
  have c4 : rv_g h' (some (.inl (cI (-2147483648) 2147483647))) r := c3
  cases r with
  | none => exact c4.elim
  | some v => cases v with
    | int v => exact ⟨v, rfl⟩
    | _ => exact c4.elim
theorem wy_parks {x : Int32} (hh : HH h) (x0 : 0 ≤ x.toInt) (x3 : x.toInt ≤ 3) : Sp 9 320 h [.ref 77, .int x] (fun h' r => r = none ∧ HH h' ∧ fr_g [(77, 27, 27), (90, 0, 9), (91, 0, 7)] h h') := by
  obtain ⟨h', r, p, a, b, C, hC, c⟩ := sum_up q149 5 h [.ref 77, .int x] hh ⟨rfl, ⟨x0, x3⟩, trivial⟩ (fun _ hq => absurd hq List.not_mem_nil) (fun _ hq => absurd hq List.not_mem_nil)
  cases List.mem_singleton.mp hC
  refine ⟨h', r, p, ?_, a, b⟩
  obtain ⟨-, -, -, c3⟩ := c
  have c4 : rv_g h' none r := c3
  cases r with
  | none => rfl
  | some v => exact c4.elim
theorem wy_cell (hh : HH h) (hm : mm_g h [((77, 23), 0, 255)]) : 0 ≤ (gi h 77 23).toInt ∧ (gi h 77 23).toInt ≤ 255 := by
  obtain ⟨x, e, a, b⟩ := hm _ List.mem_cons_self
  have e2 := (ld_gi hh (a := 77) (k := 23) rfl).1
  have e3 : ld h 77 23 = some (.int x) := e
  rw [e3] at e2
  injection e2 with e2
  injection e2 with e2
  subst e2
  exact ⟨a, b⟩
theorem wy_lays (hh : HH h) (F : w0.1.2.1 125 h) : Sp 9 293 h [.ref 77] (fun h' r => r = none ∧ HH h' ∧ fr_g [(77, 22, 23), (89, 0, 7)] h h' ∧ 0 ≤ (gi h' 77 23).toInt ∧ (gi h' 77 23).toInt ≤ 255) := by
  obtain ⟨h', r, p, a, b, C, hC, c⟩ := sum_up q118 7 h [.ref 77] hh ⟨rfl, trivial⟩ (fun _ hq => absurd hq List.not_mem_nil) (fun i hi => by rw [List.mem_singleton.mp hi]; exact F)
  cases List.mem_singleton.mp hC
  obtain ⟨-, c2, -, c3⟩ := c
  refine ⟨h', r, p, ?_, a, b, wy_cell a c2⟩
  have c4 : rv_g h' none r := c3
  cases r with
  | none => rfl
  | some v => exact c4.elim
theorem wy_loop {x : Int32} {n : Nat} (n8 : n ≤ 8) (hx : x = -1 ∨ (0 ≤ x.toInt ∧ x.toInt ≤ 7)) (j : Nat) : ∀ {g : pm_H} {s : Nat} {z : Int64} (lv : List (Nat × Value)), s + j = 2 ^ n → HH g → gi g 84 3 = nJ n → 0 ≤ (gi g 77 23).toInt ∧ (gi g 77 23).toInt ≤ 255 → pm_get lv 0 = some (.ref 77) → pm_get lv 1 = some (.int x) → pm_get lv 2 = some (.long z) → pm_get lv 4 = some (.int (nJ s)) → Ends (pm_at tX9_weightOf) (pm_Rt pm_P 9) (9, lv, [], g, 0, 0) (fun h' r => HH h' ∧ fr_g WYM g h' ∧ (0 ≤ (gi h' 77 23).toInt ∧ (gi h' 77 23).toInt ≤ 255) ∧ ∃ v : Int64, r = some (.long v)) := by
  have q8 : 2 ^ n ≤ 2 ^ 8 := Nat.pow_le_pow_right (by omega) n8
  have c9 : ∀ {g : pm_H}, gi g 84 3 = nJ n → gn g 84 3 = n := fun {g} e => by
    show (gi g 84 3).toInt.toNat = n
    rw [e, nJ_toInt (by omega)]; rfl
  have sh : nJ 1 <<< (nJ n &&& 31) = nJ (2 ^ n) := bl_shl ⟨n, by omega⟩
  induction j with
  | zero =>
    intro g s z lv hj hg g4 cm L0 L1 L2 L4
    refine E_il rfl L4 ?_
    refine E_ci 1 rfl ci1 ?_
    refine E_al rfl L0 ?_
    refine E_call rfl (Sp_le (by first | exact Nat.add_le_add_left (Nat.le_of_ble_eq_true rfl) _ | exact Nat.le_of_ble_eq_true rfl | omega) (sp_cars (d := 0) hg)) (chk77 hg rfl rfl (by show 2 ≤ 8; decide)) (fun h1 r1 => ?_)
    rintro ⟨e1, f1, -⟩
    rw [e1, f1, c9 g4]
    refine E_bin rfl sh ?_
    refine E_icT rfl (decide_eq_true ((nJ_le (by omega) (by omega)).mpr (by omega))) ?_
    refine E_ll rfl L2 ?_
    exact wy_ret rfl ⟨hg, fr_rf _ _, cm, _, rfl⟩
  | succ j ih =>
    intro g s z lv hj hg g4 cm L0 L1 L2 L4
    have hs : s < 2 ^ n := by omega
    have pl := wy_pc n8 hs
    refine E_il rfl L4 ?_
    refine E_ci 1 rfl ci1 ?_
    refine E_al rfl L0 ?_
    refine E_call rfl (Sp_le (by first | exact Nat.add_le_add_left (Nat.le_of_ble_eq_true rfl) _ | exact Nat.le_of_ble_eq_true rfl | omega) (sp_cars (d := 0) hg)) (chk77 hg rfl rfl (by show 2 ≤ 8; decide)) (fun h1 r1 => ?_)
    rintro ⟨e1, f1, -⟩
    rw [e1, f1, c9 g4]
    refine E_bin rfl sh ?_
    refine E_icF rfl (decide_eq_false (fun z => absurd ((nJ_le (by omega) (by omega)).mp z) (by omega))) ?_
    refine E_al rfl L0 ?_
    refine E_il rfl L4 ?_
    refine E_pf rfl hg rfl ?_
    have h3 : HH (pt g 77 23 (nJ s)) := HH_pt hg rfl (ai_lo _) (ai_hi _)
    have q3 : gi (pt g 77 23 (nJ s)) 77 23 = nJ s := gi_pt hg rfl (ai_lo _) (ai_hi _)
    have f3 : fr_g WYM g (pt g 77 23 (nJ s)) := fr_ptr (l := 22) (u := 23) rfl (by decide) (by decide) (fr_rf _ _)
    generalize pt g 77 23 (nJ s) = g3 at h3 q3 f3 ⊢
    have lw := ld_gi h3 (a := 77) (k := 22) (q := (0, 3)) rfl
    refine E_al rfl L0 ?_
    refine E_al rfl L0 ?_
    refine E_gf (q := (0, 3)) rfl h3 rfl rfl ?_
    refine E_call rfl (wy_parks h3 lw.2.1 lw.2.2) (chk77 h3 rfl rfl (by show 0 ≤ 8; decide)) (fun h4 r4 => ?_)
    rintro ⟨e4, hh4, f4⟩
    rw [e4]
    have f5 : fr_g WYM g h4 := fr_trans f3 (fr_wk rfl f4)
    have g5 : gi h4 84 3 = nJ n := by rw [fr_gi f5 rfl]; exact g4
    have cm4 : 0 ≤ (gi h4 77 23).toInt ∧ (gi h4 77 23).toInt ≤ 255 := by
      rw [fr_gi f4 rfl, q3, nJ_toInt (by omega)]
      omega
    refine E_al rfl L0 ?_
    refine E_gr rfl hh4 (q := 84) rfl ?_
    refine E_ci 2 rfl ci2 ?_
    refine E_ial rfl hh4 rfl (by decide) (by decide) rfl ?_
    refine sy_i2l rfl ?_
    refine E_il rfl L4 ?_
    refine E_call rfl (Sp_le (by first | exact Nat.add_le_add_left (Nat.le_of_ble_eq_true rfl) _ | exact Nat.le_of_ble_eq_true rfl | omega) (sp_sizeOf (d := 0) (m := s) (by omega))) (chkS rfl (by show 2 ≤ 8; decide)) (fun h5 r5 => ?_)
    rintro ⟨e5, f5'⟩
    rw [e5, f5']
    refine E_call rfl (Sp_le (by first | exact Nat.add_le_add_left (Nat.le_of_ble_eq_true rfl) _ | exact Nat.le_of_ble_eq_true rfl | omega) (wy_power (h := h4) (pcT s) (by omega) (d := 0))) (chkS rfl (by show 0 ≤ 8; decide)) (fun h6 r6 => ?_)
    rintro ⟨e6, v6, f6⟩
    rw [e6, f6]
    refine E_c rfl ?_
    refine E_al rfl L0 ?_
    refine E_gr rfl hh4 (q := 84) rfl ?_
    refine E_ci 2 rfl ci2 ?_
    refine E_ial rfl hh4 rfl (by decide) (by decide) rfl ?_
    refine sy_i2l rfl ?_
    refine sy_lb rfl ?_
    refine E_al rfl L0 ?_
    refine E_call rfl (Sp_le (by first | exact Nat.add_le_add_left (Nat.le_of_ble_eq_true rfl) _ | exact Nat.le_of_ble_eq_true rfl | omega) (sp_cars (d := 0) hh4)) (chk77 hh4 rfl rfl (by show 4 ≤ 8; decide)) (fun h7 r7 => ?_)
    rintro ⟨e7, f7, -⟩
    rw [e7, f7, c9 g5]
    refine E_il rfl L4 ?_
    refine E_call rfl (Sp_le (by first | exact Nat.add_le_add_left (Nat.le_of_ble_eq_true rfl) _ | exact Nat.le_of_ble_eq_true rfl | omega) (sp_sizeOf (d := 0) (m := s) (by omega))) (chkS rfl (by show 5 ≤ 8; decide)) (fun h8 r8 => ?_)
    rintro ⟨e8, f8⟩
    rw [e8, f8]
    refine E_bin rfl (nJ_sub pl) ?_
    refine E_call rfl (Sp_le (by first | exact Nat.add_le_add_left (Nat.le_of_ble_eq_true rfl) _ | exact Nat.le_of_ble_eq_true rfl | omega) (wy_power (h := h4) (n - pcT s) (by omega) (d := 0))) (chkS rfl (by show 2 ≤ 8; decide)) (fun h9 r9 => ?_)
    rintro ⟨e9, v9, f9⟩
    rw [e9, f9]
    refine sy_lb rfl ?_
    refine sy_ls rfl (fun lv1 K5 kp => ?_)
    have A0 := kp 0 _ (nbz rfl) (nbz rfl) (fun q => absurd q (nbz rfl)) L0
    have A1 := kp 1 _ (nbz rfl) (nbz rfl) (fun q => absurd q (nbz rfl)) L1
    have A2 := kp 2 _ (nbz rfl) (nbz rfl) (fun q => absurd q (nbz rfl)) L2
    have A4 := kp 4 _ (nbz rfl) (nbz rfl) (fun _ => rfl) L4
    refine E_ll rfl A2 ?_
    refine E_ll rfl K5 ?_
    have nx : ∀ {gg : pm_H} {v : Int32} {u t : Int64}, HH gg → fr_g WYM g gg → gi gg 84 3 = nJ n → 0 ≤ (gi gg 77 23).toInt ∧ (gi gg 77 23).toInt ≤ 255 → Ends (pm_at tX9_weightOf) (pm_Rt pm_P 9) (111, lv1, [.int v, .long u, .long t], gg, 0, 0) (fun h' r => HH h' ∧ fr_g WYM g h' ∧ (0 ≤ (gi h' 77 23).toInt ∧ (gi h' 77 23).toInt ≤ 255) ∧ ∃ v : Int64, r = some (.long v)) := by
      intro gg v u t hgg fgg g6 cm6
      refine sy_i2l rfl ?_
      refine sy_lb rfl ?_
      refine sy_lb rfl ?_
      refine sy_ls rfl (fun lv2 K2 kp2 => ?_)
      refine sy_inc rfl (kp2 4 _ (nbz rfl) (nbz rfl) (fun q => absurd q (nbz rfl)) A4) (nJ_inc _) (fun lv3 K4 kp3 => ?_)
      refine E_goto rfl ?_
      obtain ⟨h', r, p, a, b, c, e⟩ := ih lv3 (by omega) hgg g6 cm6 (kp3 0 _ (nbz rfl) (fun q => absurd q (nbz rfl)) (kp2 0 _ (nbz rfl) (nbz rfl) (fun q => absurd q (nbz rfl)) A0)) (kp3 1 _ (nbz rfl) (fun q => absurd q (nbz rfl)) (kp2 1 _ (nbz rfl) (nbz rfl) (fun _ => rfl) A1)) (kp3 2 _ (nbz rfl) (fun q => absurd q (nbz rfl)) K2) K4
      exact ⟨h', r, p, a, fr_trans fgg b, c, e⟩
    refine E_il rfl A1 ?_
    refine E_c rfl ?_
    rcases hx with rfl | ⟨x0, x7⟩
    · refine E_icF rfl (decide_eq_false (fun q => q rfl)) ?_
      refine E_al rfl A0 ?_
      refine E_call rfl (wy_now hh4) (chk77 hh4 rfl rfl (by show 4 ≤ 8; decide)) (fun ha ra => ?_)
      rintro ⟨hha, fa, v, ea⟩
      rw [ea]
      refine E_goto rfl ?_
      exact nx hha (fr_trans f5 (fr_wk rfl fa)) (by rw [fr_gi fa rfl]; exact g5) (by rw [fr_gi fa rfl]; exact cm4)
    · have xn : ¬ x = -1 := fun q => by
        rw [q] at x0
        exact absurd x0 (by decide)
      refine E_icT rfl (decide_eq_true xn) ?_
      obtain ⟨c, hc, rfl⟩ : ∃ c, c < 8 ∧ x = nJ c := ⟨x.toInt.toNat, by omega, nJ_of x0⟩
      refine E_al rfl A0 ?_
      refine E_gr rfl hh4 (q := 91) rfl ?_
      refine E_il rfl A1 ?_
      refine E_ial rfl hh4 rfl hc (by decide) rfl ?_
      refine E_al rfl A0 ?_
      refine E_gr rfl hh4 (q := 89) rfl ?_
      refine E_il rfl A1 ?_
      refine E_ial rfl hh4 rfl hc (by decide) rfl ?_
      by_cases b : gi h4 91 c = gi h4 89 c
      · refine E_icF rfl (decide_eq_false (fun q => q b)) ?_
        refine E_ci 1 rfl ci1 ?_
        refine E_goto rfl ?_
        exact nx hh4 f5 g5 cm4
      · refine E_icT rfl (decide_eq_true b) ?_
        refine E_ci 0 rfl ci0 ?_
        exact nx hh4 f5 g5 cm4
end WYH
end
