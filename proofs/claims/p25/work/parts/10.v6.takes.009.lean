section
set_option maxRecDepth 20000 in
theorem wnq : sum_g w0 (pm_Rt pm_P 3) (372, [cR 77, cI (-2147483648) 2147483647, cI 1 1], [], [], [], [([cR 77, cI (-2147483648) 2147483647, cI 1 1], [], [], some (.inl (cI (-6) (-2)))), ([cR 77, cI 3 3, cI 1 1], [((78, 3), 0, 3), ((83, 0), 1, 2147483647)], [953], some (.inl (cI 0 0))), ([cR 77, cI 2 2, cI 1 1], [((78, 2), 0, 3), ((83, 0), 1, 2147483647)], [891], some (.inl (cI 0 0))), ([cR 77, cI 1 1, cI 1 1], [((78, 1), 0, 3), ((83, 0), 1, 2147483647)], [829], some (.inl (cI 0 0))), ([cR 77, cI 0 0, cI 1 1], [((78, 0), 0, 3), ((83, 0), 1, 2147483647)], [767], some (.inl (cI 0 0)))]) := by
  intro h as hh ha _ _
  match as, ha with
  | [.ref a, .int x, .int y], ⟨h1, h2, h3, _⟩ =>
    have h1 : a = 77 := h1
    have h3 : (1 : Int) ≤ y.toInt ∧ y.toInt ≤ 1 := h3
    have h4 : y = nJ 1 := Int32.toInt_inj.mp (show y.toInt = 1 by omega)
    subst h1
    subst h4
    obtain ⟨h', r, p1, e, p2⟩ := sp_whyNotX (d := 0) (x := x) hh
    subst e
    refine ⟨h', r, p1, hh, fun _ _ _ => rfl, ?_⟩
    have mm : ∀ {s : Nat}, s < 4 → 0 ≤ (gi h' 78 s).toInt → 1 ≤ (gi h' 83 0).toInt → ∀ q ∈ ([((78, s), 0, 3), ((83, 0), 1, 2147483647)] : MB), ∃ x : Int32, ld h' q.1.1 q.1.2 = some (.int x) ∧ q.2.1 ≤ x.toInt ∧ x.toInt ≤ q.2.2 := by
      intro s hs f1 f2 q hq
      have b78 : bd 78 s = some (-1, 3) := bd_u rfl (by omega)
      rcases List.mem_cons.mp hq with hq | hq
      · rw [hq]; exact ⟨_, (ld_gi hh b78).1, f1, (ld_gi hh b78).2.2⟩
      · rw [List.mem_singleton.mp hq]; exact ⟨_, (ld_gi hh (a := 83) (k := 0) rfl).1, f2, (ld_gi hh (a := 83) (k := 0) rfl).2.2⟩
    rcases p2 with ⟨y, rfl, y1, y2⟩ | ⟨s, hs, rfl, rfl, f0, f1, f2⟩
    · exact ⟨_, List.mem_cons_self, ⟨rfl, ⟨ai_lo x, ai_hi x⟩, ⟨by decide, by decide⟩, trivial⟩, fun _ hq => absurd hq List.not_mem_nil, fun _ hq => absurd hq List.not_mem_nil, ⟨y1, y2⟩⟩
    · match s, hs, f0, f1, f2 with
      | 0, hs, f0, f1, f2 => exact ⟨_, List.mem_cons_of_mem _ (List.mem_cons_of_mem _ (List.mem_cons_of_mem _ (List.mem_cons_of_mem _ List.mem_cons_self))), ⟨rfl, ⟨by decide, by decide⟩, ⟨by decide, by decide⟩, trivial⟩, mm hs f0 f1, fun i hi => by rw [List.mem_singleton.mp hi]; exact f2, ⟨by decide, by decide⟩⟩
      | 1, hs, f0, f1, f2 => exact ⟨_, List.mem_cons_of_mem _ (List.mem_cons_of_mem _ (List.mem_cons_of_mem _ List.mem_cons_self)), ⟨rfl, ⟨by decide, by decide⟩, ⟨by decide, by decide⟩, trivial⟩, mm hs f0 f1, fun i hi => by rw [List.mem_singleton.mp hi]; exact f2, ⟨by decide, by decide⟩⟩
      | 2, hs, f0, f1, f2 => exact ⟨_, List.mem_cons_of_mem _ (List.mem_cons_of_mem _ List.mem_cons_self), ⟨rfl, ⟨by decide, by decide⟩, ⟨by decide, by decide⟩, trivial⟩, mm hs f0 f1, fun i hi => by rw [List.mem_singleton.mp hi]; exact f2, ⟨by decide, by decide⟩⟩
      | 3, hs, f0, f1, f2 => exact ⟨_, List.mem_cons_of_mem _ List.mem_cons_self, ⟨rfl, ⟨by decide, by decide⟩, ⟨by decide, by decide⟩, trivial⟩, mm hs f0 f1, fun i hi => by rw [List.mem_singleton.mp hi]; exact f2, ⟨by decide, by decide⟩⟩
end
section
/-! by hand: isAsSeen of the class, isSo of the reference (their summaries for the four slots; wants t29, t37) -/
section SEE
variable {h : pm_H} {d : Nat}
theorem as_loop {s : Nat} (hh : HH h) (hs : s < 4) (F : LDf (55 + 2 * s) 0 2 1 7 (54 + 2 * s) 3 h) (j : Nat) : ∀ {k : Nat} (lv : List (Nat × Value)), gn h (54 + 2 * s) 3 ≤ 2 * k + j → k ≤ 31 → pm_get lv 0 = some (.ref 0) → pm_get lv 1 = some (.ref (54 + 2 * s)) → pm_get lv 2 = some (.int (nJ (2 * k))) → Ends (pm_at tX8_isAsSeen) (pm_Rt pm_P d) (2, lv, [], h, 0, 0) (fun h' r => h' = h ∧ (r = some (.int 1) ∨ (r = some (.int 0) ∧ 2 ≤ gn h (54 + 2 * s) 3))) := by
  obtain ⟨S1, S2, S3, S4, S5, S6⟩ := isS_at s hs
  have hn : gn h (54 + 2 * s) 3 ≤ 60 := gn_hi hh S6 (by decide)
  have yes : ∀ (lv : List (Nat × Value)), Ends (pm_at tX8_isAsSeen) (pm_Rt pm_P d) (48, lv, [], h, 0, 0) (fun h' r => h' = h ∧ (r = some (.int 1) ∨ (r = some (.int 0) ∧ 2 ≤ gn h (54 + 2 * s) 3))) := by
    intro lv
    refine E_c rfl ?_
    exact E_rtz rfl (.inr rfl) ⟨rfl, .inl rfl⟩
  induction j with
  | zero =>
    intro k lv hj hk L0 L1 L2
    refine E_il rfl L2 ?_
    refine E_ci 1 rfl (by decide) ?_
    refine E_bin rfl (nJ_add _ _) ?_
    refine E_al rfl L1 ?_
    refine E_ogf rfl hh S1 S6 (gi_gn hh S6 (by decide)) ?_
    refine E_icT rfl (decide_eq_true ((nJ_le (by omega) (by omega)).mpr (by omega))) ?_
    exact yes lv
  | succ j ih =>
    intro k lv hj hk L0 L1 L2
    refine E_il rfl L2 ?_
    refine E_ci 1 rfl (by decide) ?_
    refine E_bin rfl (nJ_add _ _) ?_
    refine E_al rfl L1 ?_
    refine E_ogf rfl hh S1 S6 (gi_gn hh S6 (by decide)) ?_
    by_cases b0 : gn h (54 + 2 * s) 3 ≤ 2 * k + 1
    · refine E_icT rfl (decide_eq_true ((nJ_le (by omega) (by omega)).mpr b0)) ?_
      exact yes lv
    refine E_icF rfl (decide_eq_false (fun q => b0 ((nJ_le (by omega) (by omega)).mp q))) ?_
    obtain ⟨x, e1, e2, e3⟩ := F (gi h (54 + 2 * s) 3) k (ld_gi hh S6).1 (by rw [gi_gn hh S6 (by decide), nJ_toInt (by omega)]; omega)
    have ex : gl h (55 + 2 * s) (2 * k) = x := by
      rw [show 0 + 2 * k = 2 * k by omega, ld_gl hh S3] at e1
      injection e1 with e1
      injection e1
    refine E_al rfl L0 ?_
    refine E_ogr (q := 62) rfl hh rfl rfl ?_
    refine E_ogr (q := 63) rfl hh rfl rfl ?_
    refine E_al rfl L1 ?_
    refine E_ogr rfl hh S1 S2 ?_
    refine E_il rfl L2 ?_
    refine E_lal rfl hh S3 (by omega) (by decide) ?_
    refine E_l2i rfl (show (gl h (55 + 2 * s) (2 * k)).toInt32 = nJ x.toInt.toNat from by
      rw [ex]
      apply Int32.toInt_inj.mp
      rw [Int64.toInt_toInt32, nJ_toInt (by omega), Int.bmod_eq_of_le (by omega) (by omega)]
      omega) ?_
    refine E_ial rfl hh rfl (by omega) (by decide) rfl ?_
    refine E_i2l rfl ?_
    refine E_al rfl L1 ?_
    refine E_ogr rfl hh S1 S2 ?_
    refine E_il rfl L2 ?_
    refine E_ci 1 rfl (by decide) ?_
    refine E_bin rfl (nJ_add _ _) ?_
    refine E_lal rfl hh S3 (by omega) (by decide) ?_
    refine E_lcmp rfl ?_
    by_cases b1 : lg_cmp (gi h 63 x.toInt.toNat).toInt64 (gl h (55 + 2 * s) (2 * k + 1)) = 0
    · refine E_ifT rfl (decide_eq_true b1) ?_
      refine E_inc rfl L2 (show nJ (2 * k) + 2 = nJ (2 * (k + 1)) from nJ_add (2 * k) 2) (fun lv2 N2 kp2 => ?_)
      refine E_goto rfl ?_
      exact ih lv2 (by omega) (by omega) (kp2 0 _ (by decide) rfl L0) (kp2 1 _ (by decide) rfl L1) N2
    · refine E_ifF rfl (decide_eq_false b1) ?_
      refine E_c rfl ?_
      exact E_rtz rfl (.inl rfl) ⟨rfl, .inr ⟨rfl, by omega⟩⟩
theorem sp_isAsSeenB {s : Nat} (hh : HH h) (hs : s < 4) (F : LDf (55 + 2 * s) 0 2 1 7 (54 + 2 * s) 3 h) : Sp (d + 1) 124 h [.ref 0, .ref (54 + 2 * s)] (fun h' r => h' = h ∧ (r = some (.int 1) ∨ (r = some (.int 0) ∧ 2 ≤ gn h (54 + 2 * s) 3))) := by
  refine Sp_of aiX8_isAsSeen rfl rfl rfl ?_
  have L0 : pm_get (lv_args 0 [.ref 0, .ref (54 + 2 * s)]) 0 = some (.ref 0) := rfl
  have L1 : pm_get (lv_args 0 [.ref 0, .ref (54 + 2 * s)]) 1 = some (.ref (54 + 2 * s)) := rfl
  generalize lv_args 0 [.ref 0, .ref (54 + 2 * s)] = lv at L0 L1 ⊢
  refine E_ci 0 rfl (by decide) ?_
  refine E_is rfl (fun lv1 K2 kp => ?_)
  have hn : gn h (54 + 2 * s) 3 ≤ 60 := gn_hi hh (isS_at s hs).2.2.2.2.2 (by decide)
  exact as_loop hh hs F 60 (k := 0) lv1 (by omega) (by omega) (kp 0 _ (by decide) rfl L0) (kp 1 _ (by decide) rfl L1) K2
theorem as_sum {s f : Nat} (hs : s < 4) (eF : ∀ h, w0.1.2.1 f h = LDf (55 + 2 * s) 0 2 1 7 (54 + 2 * s) 3 h) : sum_g w0 (pm_Rt pm_P 1) (124, [cR 0, cR (54 + 2 * s)], [], [f], [], [([cR 0, cR (54 + 2 * s)], [((54 + 2 * s, 3), 2, 60)], [], some (.inl (cI 0 0))), ([cR 0, cR (54 + 2 * s)], [], [], some (.inl (cI 1 1)))]) := by
  intro h as hh ha _ hf
  match as, ha with
  | [.ref a, .ref b], ⟨h1, h2, _⟩ =>
    have h1 : a = 0 := h1
    have h2 : b = 54 + 2 * s := h2
    subst h1
    subst h2
    obtain ⟨h', r, p1, e, p2⟩ := sp_isAsSeenB (d := 0) hh hs ((eF h) ▸ hf f List.mem_cons_self)
    subst e
    have S6 := (isS_at s hs).2.2.2.2.2
    refine ⟨h', r, p1, hh, fun _ _ _ => rfl, ?_⟩
    rcases p2 with rfl | ⟨rfl, q⟩
    · exact ⟨_, List.mem_cons_of_mem _ List.mem_cons_self, ⟨rfl, rfl, trivial⟩, fun _ hq => absurd hq List.not_mem_nil, fun _ hq => absurd hq List.not_mem_nil, ⟨by decide, by decide⟩⟩
    · refine ⟨_, List.mem_cons_self, ⟨rfl, rfl, trivial⟩, fun k hk => ?_, fun _ hq => absurd hq List.not_mem_nil, ⟨by decide, by decide⟩⟩
      rw [List.mem_singleton.mp hk]
      have hn : gn h' (54 + 2 * s) 3 ≤ 60 := gn_hi hh S6 (by decide)
      have tn := nJ_toInt (n := gn h' (54 + 2 * s) 3) (by omega)
      refine ⟨_, (ld_gi hh S6).1, ?_, ?_⟩
      · rw [gi_gn hh S6 (by decide), tn]; show (2 : Int) ≤ _; omega
      · rw [gi_gn hh S6 (by decide), tn]; show _ ≤ (60 : Int); omega
theorem sp_seenB {v : Nat} (hh : HH h) (v7 : v ≤ 7) : Sp (d + 1) 343 h [.ref 77, .int (nJ v)] (fun h' r => h' = h ∧ ∃ y : Int32, r = some (.int y)) := by
  refine Sp_of aiX9_seenPlace rfl rfl rfl ?_
  have L0 : pm_get (lv_args 0 [.ref 77, .int (nJ v)]) 0 = some (.ref 77) := rfl
  have L1 : pm_get (lv_args 0 [.ref 77, .int (nJ v)]) 1 = some (.int (nJ v)) := rfl
  generalize lv_args 0 [.ref 77, .int (nJ v)] = lv at L0 L1 ⊢
  refine E_al rfl L0 ?_
  refine E_gr rfl hh (q := 91) rfl ?_
  refine E_il rfl L1 ?_
  refine E_ial rfl hh rfl (by omega) (by decide) rfl ?_
  refine E_c rfl ?_
  by_cases b : gi h 91 v = -1
  · refine E_icF rfl (decide_eq_false (fun q => q b)) ?_
    refine E_c rfl ?_
    refine E_goto rfl ?_
    exact E_rti rfl ⟨rfl, _, rfl⟩
  · refine E_icT rfl (decide_eq_true b) ?_
    refine E_al rfl L0 ?_
    refine E_gr rfl hh (q := 91) rfl ?_
    refine E_il rfl L1 ?_
    refine E_ial rfl hh rfl (by omega) (by decide) rfl ?_
    exact E_rti rfl ⟨rfl, _, rfl⟩
theorem so_loop {s : Nat} (hh : HH h) (hs : s < 4) (F : LDf 80 (60 * s) 2 0 7 79 s h) (j : Nat) : ∀ {k : Nat} (lv : List (Nat × Value)), gn h 79 s ≤ 2 * k + j → k ≤ 31 → pm_get lv 0 = some (.ref 77) → pm_get lv 1 = some (.int (nJ s)) → pm_get lv 2 = some (.int (nJ (2 * k))) → Ends (pm_at tX9_isSo) (pm_Rt pm_P (d + 1)) (2, lv, [], h, 0, 0) (fun h' r => h' = h ∧ (r = some (.int 1) ∨ (r = some (.int 0) ∧ 1 ≤ gn h 79 s))) := by
  have b79 : bd 79 s = some (0, 60) := bd_u rfl (by omega)
  have hn : gn h 79 s ≤ 60 := gn_hi hh b79 (by decide)
  have yes : ∀ (lv : List (Nat × Value)), Ends (pm_at tX9_isSo) (pm_Rt pm_P (d + 1)) (54, lv, [], h, 0, 0) (fun h' r => h' = h ∧ (r = some (.int 1) ∨ (r = some (.int 0) ∧ 1 ≤ gn h 79 s))) := by
    intro lv
    refine E_c rfl ?_
    exact E_rtz rfl (.inr rfl) ⟨rfl, .inl rfl⟩
  induction j with
  | zero =>
    intro k lv hj hk L0 L1 L2
    refine E_il rfl L2 ?_
    refine E_al rfl L0 ?_
    refine E_gr rfl hh (q := 79) rfl ?_
    refine E_il rfl L1 ?_
    refine E_ial rfl hh rfl (by omega) (by decide) (gi_gn hh b79 (by decide)) ?_
    refine E_icT rfl (decide_eq_true ((nJ_le (by omega) (by omega)).mpr (by omega))) ?_
    exact yes lv
  | succ j ih =>
    intro k lv hj hk L0 L1 L2
    refine E_il rfl L2 ?_
    refine E_al rfl L0 ?_
    refine E_gr rfl hh (q := 79) rfl ?_
    refine E_il rfl L1 ?_
    refine E_ial rfl hh rfl (by omega) (by decide) (gi_gn hh b79 (by decide)) ?_
    by_cases b0 : gn h 79 s ≤ 2 * k
    · refine E_icT rfl (decide_eq_true ((nJ_le (by omega) (by omega)).mpr b0)) ?_
      exact yes lv
    refine E_icF rfl (decide_eq_false (fun q => b0 ((nJ_le (by omega) (by omega)).mp q))) ?_
    obtain ⟨x, e1, e2, e3⟩ := F (gi h 79 s) k (ld_gi hh b79).1 (by rw [gi_gn hh b79 (by decide), nJ_toInt (by omega)]; omega)
    have ex : gl h 80 (60 * s + 2 * k) = x := by
      rw [ld_gl hh (len := 240) rfl] at e1
      injection e1 with e1
      injection e1
    refine E_al rfl L0 ?_
    refine E_al rfl L0 ?_
    refine E_gr rfl hh (q := 80) rfl ?_
    refine E_ci 60 rfl (by decide) ?_
    refine E_il rfl L1 ?_
    refine E_bin rfl (nJ_mulE _ _) ?_
    refine E_il rfl L2 ?_
    refine E_bin rfl (nJ_add _ _) ?_
    refine E_lal (len := 240) rfl hh rfl (by omega) (by decide) ?_
    refine E_l2i rfl (show (gl h 80 (60 * s + 2 * k)).toInt32 = nJ x.toInt.toNat from by
      rw [ex]
      apply Int32.toInt_inj.mp
      rw [Int64.toInt_toInt32, nJ_toInt (by omega), Int.bmod_eq_of_le (by omega) (by omega)]
      omega) ?_
    refine E_call rfl (sp_seenB (d := d) hh (by omega)) (chk77 hh rfl rfl (by show 0 ≤ 8; decide)) (fun h1 r1 => ?_)
    rintro ⟨f1, y, f2⟩
    rw [f1, f2]
    refine E_i2l rfl ?_
    refine E_al rfl L0 ?_
    refine E_gr rfl hh (q := 80) rfl ?_
    refine E_ci 60 rfl (by decide) ?_
    refine E_il rfl L1 ?_
    refine E_bin rfl (nJ_mulE _ _) ?_
    refine E_il rfl L2 ?_
    refine E_bin rfl (nJ_add _ _) ?_
    refine E_ci 1 rfl (by decide) ?_
    refine E_bin rfl (nJ_add _ _) ?_
    refine E_lal (len := 240) rfl hh rfl (by omega) (by decide) ?_
    refine E_lcmp rfl ?_
    by_cases b1 : lg_cmp y.toInt64 (gl h 80 (60 * s + 2 * k + 1)) = 0
    · refine E_ifT rfl (decide_eq_true b1) ?_
      refine E_inc rfl L2 (show nJ (2 * k) + 2 = nJ (2 * (k + 1)) from nJ_add (2 * k) 2) (fun lv2 N2 kp2 => ?_)
      refine E_goto rfl ?_
      exact ih lv2 (by omega) (by omega) (kp2 0 _ (by decide) rfl L0) (kp2 1 _ (by decide) rfl L1) N2
    · refine E_ifF rfl (decide_eq_false b1) ?_
      refine E_c rfl ?_
      exact E_rtz rfl (.inl rfl) ⟨rfl, .inr ⟨rfl, by omega⟩⟩
end SEE
end
