section
section RDC
variable {h : pm_H} {d : Nat} {x : Int32}
noncomputable def RcQ (h : pm_H) (x : Int32) (h' : pm_H) (r : Option Value) : Prop := HH h' ∧ fr_g RF7 h h' ∧ ((∃ y : Int32, r = some (.int y) ∧ -6 ≤ y.toInt ∧ y.toInt ≤ -2) ∨ (0 ≤ x.toInt ∧ x.toInt ≤ 3 ∧ r = some (.int 0) ∧ 1 ≤ (gi h' 15 0).toInt ∧ (gi h' 15 0).toInt ≤ 8 ∧ 2 ≤ (gi h' 64 5).toInt ∧ (gi h' 64 5).toInt ≤ 9))
theorem cn_at : ∀ s, s < 4 → RF7.all (fun r => !(Nat.beq r.1 (55 + 2 * s))) = true
  | 0, _ => rfl
  | 1, _ => rfl
  | 2, _ => rfl
  | 3, _ => rfl
  | s + 4, hs => absurd hs (by omega)
theorem sp_readCode7 (hh : HH h) : Sp 4 165 h [.ref 0, .int x, .int (nJ 1)] (RcQ h x) := by
  refine Sp_of (d := 3) aiX8_readCode rfl rfl rfl ?_
  have L0 : pm_get (lv_args 0 [.ref 0, .int x, .int (nJ 1)]) 0 = some (.ref 0) := rfl
  have L1 : pm_get (lv_args 0 [.ref 0, .int x, .int (nJ 1)]) 1 = some (.int x) := rfl
  have L2 : pm_get (lv_args 0 [.ref 0, .int x, .int (nJ 1)]) 2 = some (.int (nJ 1)) := rfl
  generalize lv_args 0 [.ref 0, .int x, .int (nJ 1)] = lv at L0 L1 L2 ⊢
  have p8 : gn h 15 0 ≤ 8 := gn_hi hh rfl (by decide)
  have pe : gi h 15 0 = nJ (gn h 15 0) := gi_gn hh rfl (by decide)
  have bad : ∀ {y : Int32}, -6 ≤ y.toInt → y.toInt ≤ -2 → RcQ h x h (some (.int y)) := fun a b => ⟨hh, fr_rf _ _, .inl ⟨_, rfl, a, b⟩⟩
  refine E_il rfl L1 ?_
  refine E_call rfl (Sp_le (by first | exact Nat.add_le_add_left (Nat.le_of_ble_eq_true rfl) _ | exact Nat.le_of_ble_eq_true rfl | omega) (sp_isSlot8 (d := 0))) (chkS rfl (by show 0 ≤ 8; decide)) (fun h1 r1 => ?_)
  rintro ⟨e1, f1⟩
  rw [e1]
  rcases f1 with ⟨x0, x3, f1⟩ | ⟨xn, f1⟩
  · rw [f1]
    refine E_ifF rfl (by decide) ?_
    refine E_il rfl L2 ?_
    refine E_ifT rfl (by decide) ?_
    obtain ⟨s, hs, rfl⟩ : ∃ s, s < 4 ∧ x = nJ s := ⟨x.toInt.toNat, by omega, nJ_of x0⟩
    obtain ⟨S1, S2, S3, S4, S5, S6⟩ := isS_at s hs
    refine E_al rfl L0 ?_
    refine E_ogr rfl hh rfl (q := 53) rfl ?_
    refine E_il rfl L1 ?_
    refine E_aal rfl hh rfl (slot_at s hs) (by decide) ?_
    refine E_asr rfl (fun lv1 M3 kp => ?_)
    have M0 := kp 0 _ (nbz rfl) rfl L0
    refine E_al rfl M3 ?_
    refine E_ogf rfl hh S1 S4 rfl ?_
    by_cases b1 : gi h (54 + 2 * s) 1 = 0
    · refine E_ifF rfl (decide_eq_false (fun q => q b1)) ?_
      refine E_c rfl ?_
      exact E_rti rfl (bad (by decide) (by decide))
    refine E_ifT rfl (decide_eq_true b1) ?_
    have hn : gn h (54 + 2 * s) 3 ≤ 60 := gn_hi hh S6 (by decide)
    have ne : gi h (54 + 2 * s) 3 = nJ (gn h (54 + 2 * s) 3) := gi_gn hh S6 (by decide)
    refine E_al rfl M3 ?_
    refine E_ogf rfl hh S1 S6 ne ?_
    refine E_al rfl M0 ?_
    refine E_ogr rfl hh rfl (q := 15) rfl ?_
    refine E_ogf rfl hh rfl (q := (0, 8)) rfl pe ?_
    refine E_ci 1 rfl ci1 ?_
    refine E_bin rfl rfl ?_
    have ti : (nJ (gn h 15 0) - nJ 1).toInt = (gn h 15 0 : Int) - 1 := by
      rw [Int32.toInt_sub, nJ_toInt (by omega), nJ_toInt (by omega)]
      exact Int.bmod_eq_of_le (by omega) (by omega)
    have tn := nJ_toInt (n := gn h (54 + 2 * s) 3) (by omega)
    by_cases b2 : nJ (gn h (54 + 2 * s) 3) = nJ (gn h 15 0) - nJ 1
    · refine E_icT rfl (decide_eq_true b2) ?_
      have en : gn h (54 + 2 * s) 3 + 1 = gn h 15 0 := by
        have := congrArg Int32.toInt b2
        omega
      have loop : ∀ (j : Nat) {k : Nat} (lv : List (Nat × Value)), k + j = gn h (54 + 2 * s) 3 → (∀ m, m < k → 0 ≤ (gl h (55 + 2 * s) m).toInt ∧ (gl h (55 + 2 * s) m).toInt ≤ 8) → pm_get lv 0 = some (.ref 0) → pm_get lv 3 = some (.ref (54 + 2 * s)) → pm_get lv 4 = some (.int (nJ k)) → Ends (pm_at tX8_readCode) (pm_Rt pm_P 3) (53, lv, [], h, 0, 0) (RcQ h (nJ s)) := by
        intro j
        induction j with
        | zero =>
          intro k lv hj V L0 L3 L4
          refine E_il rfl L4 ?_
          refine E_al rfl L3 ?_
          refine E_ogf rfl hh S1 S6 ne ?_
          refine E_icT rfl (decide_eq_true ((nJ_le (by omega) (by omega)).mpr (by omega))) ?_
          refine E_al rfl L0 ?_
          refine E_ogr rfl hh rfl (q := 64) rfl ?_
          refine E_al rfl L3 ?_
          refine E_ogr rfl hh S1 S2 ?_
          refine E_al rfl L0 ?_
          refine E_ogr rfl hh rfl (q := 15) rfl ?_
          refine E_ogf rfl hh rfl (q := (0, 8)) rfl pe ?_
          refine E_call rfl (sp_decode7 S3 (cn_at s hs) hh (show 1 ≤ gn h 15 0 by omega) p8 (fun m hm => V m (by omega))) (chkO (a := 64) hh rfl rfl rfl rfl (by show 0 ≤ 8; decide)) (fun h2 r2 => ?_)
          rintro ⟨e2, hh2, f2, g2⟩
          rw [e2]
          refine E_c rfl ?_
          have q0 : gi h2 15 0 = nJ (gn h 15 0) := by rw [fr_gi f2 (rg_no rfl _)]; exact pe
          have t0 := nJ_toInt (n := gn h 15 0) (by omega)
          have t5 := nJ_toInt (n := gn h 15 0 + 1) (by omega)
          exact E_rti rfl ⟨hh2, f2, .inr ⟨x0, x3, rfl, by rw [q0]; omega, by rw [q0]; omega, by rw [g2]; omega, by rw [g2]; omega⟩⟩
        | succ j ih =>
          intro k lv hj V L0 L3 L4
          refine E_il rfl L4 ?_
          refine E_al rfl L3 ?_
          refine E_ogf rfl hh S1 S6 ne ?_
          refine E_icF rfl (decide_eq_false (fun q => absurd ((nJ_le (by omega) (by omega)).mp q) (by omega))) ?_
          refine E_al rfl L3 ?_
          refine E_ogr rfl hh S1 S2 ?_
          refine E_il rfl L4 ?_
          refine E_lal rfl hh S3 (by omega) (by decide) ?_
          refine E_c rfl ?_
          refine E_lcmp rfl ?_
          by_cases c1 : lg_cmp (gl h (55 + 2 * s) k) 0 < 0
          · refine E_ifT rfl (decide_eq_true c1) ?_
            refine E_c rfl ?_
            exact E_rti rfl (bad (by decide) (by decide))
          refine E_ifF rfl (decide_eq_false c1) ?_
          refine E_al rfl L3 ?_
          refine E_ogr rfl hh S1 S2 ?_
          refine E_il rfl L4 ?_
          refine E_lal rfl hh S3 (by omega) (by decide) ?_
          refine E_al rfl L0 ?_
          refine E_ogr rfl hh rfl (q := 15) rfl ?_
          refine E_ogf rfl hh rfl (q := (0, 8)) rfl pe ?_
          refine E_i2l rfl ?_
          refine E_lcmp rfl ?_
          by_cases c2 : lg_cmp (gl h (55 + 2 * s) k) (nJ (gn h 15 0)).toInt64 ≤ 0
          · refine E_ifT rfl (decide_eq_true c2) ?_
            refine E_inc rfl L4 (nJ_inc _) (fun lv2 K4 kp2 => ?_)
            refine E_goto rfl ?_
            refine ih lv2 (by omega) (fun m hm => ?_) (kp2 0 _ (nbz rfl) rfl L0) (kp2 3 _ (nbz rfl) rfl L3) K4
            by_cases e : m = k
            · rw [e]
              have q1 : ¬ gl h (55 + 2 * s) k < 0 := fun z => c1 ((lg_cmp_lt _ _).mpr z)
              rw [Int64.lt_iff_toInt_lt] at q1
              have z0 : (0 : Int64).toInt = 0 := rfl
              have q2 := (lg_cmp_le _ _).mp c2
              rw [Int64.le_iff_toInt_le, i2l_nJ (by omega)] at q2
              omega
            · exact V m (by omega)
          · refine E_ifF rfl (decide_eq_false c2) ?_
            refine E_c rfl ?_
            exact E_rti rfl (bad (by decide) (by decide))
      refine E_ci 0 rfl ci0 ?_
      refine E_is rfl (fun lv2 K4 kp2 => ?_)
      exact loop (gn h (54 + 2 * s) 3) (k := 0) lv2 (by omega) (fun m hm => absurd hm (Nat.not_lt_zero m)) (kp2 0 _ (nbz rfl) rfl M0) (kp2 3 _ (nbz rfl) rfl M3) K4
    · refine E_icF rfl (decide_eq_false b2) ?_
      refine E_c rfl ?_
      exact E_rti rfl (bad (by decide) (by decide))
  · rw [f1]
    refine E_ifT rfl (by decide) ?_
    refine E_c rfl ?_
    exact E_rti rfl (bad (by decide) (by decide))
end RDC
set_option maxRecDepth 20000 in
theorem q483 : sum_g w0 (pm_Rt pm_P 4) S483 := by
  intro h as hh ha _ _
  match as, ha with
  | [.ref a, .int x, .int y], ⟨h1, h2, h3, _⟩ =>
    have h1 : a = 0 := h1
    have h3 : (1 : Int) ≤ y.toInt ∧ y.toInt ≤ 1 := h3
    have h4 : y = nJ 1 := Int32.toInt_inj.mp (show y.toInt = 1 by omega)
    subst h1
    subst h4
    obtain ⟨h', r, p1, hh', fr, p2⟩ := sp_readCode7 (x := x) hh
    refine ⟨h', r, p1, hh', fr, ?_⟩
    rcases p2 with ⟨y, rfl, y1, y2⟩ | ⟨x0, x3, rfl, a1, a2, b1, b2⟩
    · exact ⟨_, List.mem_cons_self, ⟨rfl, ⟨ai_lo x, ai_hi x⟩, ⟨by decide, by decide⟩, trivial⟩, fun _ hq => absurd hq List.not_mem_nil, fun _ hq => absurd hq List.not_mem_nil, ⟨y1, y2⟩⟩
    · refine ⟨_, List.mem_cons_of_mem _ List.mem_cons_self, ⟨rfl, ⟨x0, x3⟩, ⟨by decide, by decide⟩, trivial⟩, fun q hq => ?_, fun _ hq => absurd hq List.not_mem_nil, ⟨by decide, by decide⟩⟩
      rcases List.mem_cons.mp hq with hq | hq
      · rw [hq]; exact ⟨_, (ld_gi hh' (a := 15) (k := 0) rfl).1, a1, a2⟩
      · rw [List.mem_singleton.mp hq]; exact ⟨_, (ld_gi hh' (a := 64) (k := 5) rfl).1, b1, b2⟩
noncomputable def S484 : Sum1 := (76, [cR 0, cI (-2147483648) 2147483647, cI (-2147483648) 2147483647], [], [], [(64, 5, 6), (65, 1, 8), (66, 0, 8), (68, 0, 8)], [([cR 0, cI (-2147483648) 2147483647, cI (-2147483648) 2147483647], [], [], some (.inl (cI (-6) 8)))])
theorem q484 : sum_g w0 (pm_Rt pm_P 5) S484 := meth_okB (d := 4) (cuts := []) (spl := []) (K := [0, 1, 2]) (N := 18) (sums := [S315, S317, S483]) aiX8_above (abX8_above w0) (by decide) (List.forall_mem_cons.mpr ⟨sum_up q315 3, List.forall_mem_cons.mpr ⟨sum_up q317 2, List.forall_mem_cons.mpr ⟨sum_up q483 0, fun _ h => absurd h List.not_mem_nil⟩⟩⟩) (by decide +kernel)
noncomputable def S485 : Sum1 := (261, [cL (-2147483648) 2147483647, cL 0 0, cL 3 3], [], [], [], [([cL (-2147483648) 2147483647, cL 0 0, cL 3 3], [], [], some (.inl (cI 0 0))), ([cL 0 3, cL 0 0, cL 3 3], [], [], some (.inl (cI 1 1)))])
end
