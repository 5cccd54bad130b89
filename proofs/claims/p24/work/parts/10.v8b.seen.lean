section
/-! by hand: isAsSeen of the class, isSo of the reference (their summaries for the four slots; wants t29, t37) -/
section SEE
variable {h : pm_H} {d : Nat}
theorem as_loop {s : Nat} (hh : HH h) (hs : s < 4) (F : LDf (55 + 2 * s) 0 2 1 7 (54 + 2 * s) 3 h) (j : Nat) : ∀ {k : Nat} (lv : List (Nat × Value)), gn h (54 + 2 * s) 3 ≤ 2 * k + j → k ≤ 31 → pm_get lv 0 = some (.ref 0) → pm_get lv 1 = some (.ref (54 + 2 * s)) → pm_get lv 2 = some (.int (nJ (2 * k))) → Ends (pm_at tX8_isAsSeen) (pm_Rt pm_P d) (2, lv, [], h, 0, 0) (fun h' r => h' = h ∧ (r = some (.int 1) ∨ (r = some (.int 0) ∧ 2 ≤ gn h (54 + 2 * s) 3))) := by
  obtain ⟨S1, S2, S3, S4, S5, S6⟩ := isS_at s hs
  have hn : gn h (54 + 2 * s) 3 ≤ 60 := gn_hi hh S6 (by decide)
  have yes : ∀ (lv : List (Nat × Value)), Ends (pm_at tX8_isAsSeen) (pm_Rt pm_P d) (48, lv, [], h, 0, 0) (fun h' r => h' = h ∧ (r = some (.int 1) ∨ (r = some (.int 0) ∧ 2 ≤ gn h (54 + 2 * s) 3))) := by
    intro lv
    refine E_c rfl ?_
    exact E_rtz rfl (.inr rfl) ⟨rfl, .inl rfl⟩
  induction j with
  | zero =>
    intro k lv hj hk L0 L1 L2
    refine E_il rfl L2 ?_
    refine E_ci 1 rfl (by decide) ?_
    refine E_bin rfl (nJ_add _ _) ?_
    refine E_al rfl L1 ?_
    refine E_ogf rfl hh S1 S6 (gi_gn hh S6 (by decide)) ?_
    refine E_icT rfl (decide_eq_true ((nJ_le (by omega) (by omega)).mpr (by omega))) ?_
    exact yes lv
  | succ j ih =>
    intro k lv hj hk L0 L1 L2
    refine E_il rfl L2 ?_
    refine E_ci 1 rfl (by decide) ?_
    refine E_bin rfl (nJ_add _ _) ?_
    refine E_al rfl L1 ?_
    refine E_ogf rfl hh S1 S6 (gi_gn hh S6 (by decide)) ?_
    by_cases b0 : gn h (54 + 2 * s) 3 ≤ 2 * k + 1
    · refine E_icT rfl (decide_eq_true ((nJ_le (by omega) (by omega)).mpr b0)) ?_
      exact yes lv
    refine E_icF rfl (decide_eq_false (fun q => b0 ((nJ_le (by omega) (by omega)).mp q))) ?_
    obtain ⟨x, e1, e2, e3⟩ := F (gi h (54 + 2 * s) 3) k (ld_gi hh S6).1 (by rw [gi_gn hh S6 (by decide), nJ_toInt (by omega)]; omega)
    have ex : gl h (55 + 2 * s) (2 * k) = x := by
      rw [show 0 + 2 * k = 2 * k by omega, ld_gl hh S3] at e1
      injection e1 with e1
      injection e1
    refine E_al rfl L0 ?_
    refine E_ogr (q := 62) rfl hh rfl rfl ?_
    refine E_ogr (q := 63) rfl hh rfl rfl ?_
    refine E_al rfl L1 ?_
    refine E_ogr rfl hh S1 S2 ?_
    refine E_il rfl L2 ?_
    refine E_lal rfl hh S3 (by omega) (by decide) ?_
    refine E_l2i rfl (show (gl h (55 + 2 * s) (2 * k)).toInt32 = nJ x.toInt.toNat from by
      rw [ex]
      apply Int32.toInt_inj.mp
      rw [Int64.toInt_toInt32, nJ_toInt (by omega), Int.bmod_eq_of_le (by omega) (by omega)]
      omega) ?_
    refine E_ial rfl hh rfl (by omega) (by decide) rfl ?_
    refine E_i2l rfl ?_
    refine E_al rfl L1 ?_
    refine E_ogr rfl hh S1 S2 ?_
    refine E_il rfl L2 ?_
    refine E_ci 1 rfl (by decide) ?_
    refine E_bin rfl (nJ_add _ _) ?_
    refine E_lal rfl hh S3 (by omega) (by decide) ?_
    refine E_lcmp rfl ?_
    by_cases b1 : lg_cmp (gi h 63 x.toInt.toNat).toInt64 (gl h (55 + 2 * s) (2 * k + 1)) = 0
    · refine E_ifT rfl (decide_eq_true b1) ?_
      refine E_inc rfl L2 (show nJ (2 * k) + 2 = nJ (2 * (k + 1)) from nJ_add (2 * k) 2) (fun lv2 N2 kp2 => ?_)
      refine E_goto rfl ?_
      exact ih lv2 (by omega) (by omega) (kp2 0 _ (by decide) rfl L0) (kp2 1 _ (by decide) rfl L1) N2
    · refine E_ifF rfl (decide_eq_false b1) ?_
      refine E_c rfl ?_
      exact E_rtz rfl (.inl rfl) ⟨rfl, .inr ⟨rfl, by omega⟩⟩
theorem sp_isAsSeenB {s : Nat} (hh : HH h) (hs : s < 4) (F : LDf (55 + 2 * s) 0 2 1 7 (54 + 2 * s) 3 h) : Sp (d + 1) 124 h [.ref 0, .ref (54 + 2 * s)] (fun h' r => h' = h ∧ (r = some (.int 1) ∨ (r = some (.int 0) ∧ 2 ≤ gn h (54 + 2 * s) 3))) := by
  refine Sp_of aiX8_isAsSeen rfl rfl rfl ?_
  have L0 : pm_get (lv_args 0 [.ref 0, .ref (54 + 2 * s)]) 0 = some (.ref 0) := rfl
  have L1 : pm_get (lv_args 0 [.ref 0, .ref (54 + 2 * s)]) 1 = some (.ref (54 + 2 * s)) := rfl
  generalize lv_args 0 [.ref 0, .ref (54 + 2 * s)] = lv at L0 L1 ⊢
  refine E_ci 0 rfl (by decide) ?_
  refine E_is rfl (fun lv1 K2 kp => ?_)
  have hn : gn h (54 + 2 * s) 3 ≤ 60 := gn_hi hh (isS_at s hs).2.2.2.2.2 (by decide)
  exact as_loop hh hs F 60 (k := 0) lv1 (by omega) (by omega) (kp 0 _ (by decide) rfl L0) (kp 1 _ (by decide) rfl L1) K2
theorem as_sum {s f : Nat} (hs : s < 4) (eF : ∀ h, w0.1.2.1 f h = LDf (55 + 2 * s) 0 2 1 7 (54 + 2 * s) 3 h) : sum_g w0 (pm_Rt pm_P 1) (124, [cR 0, cR (54 + 2 * s)], [], [f], [], [([cR 0, cR (54 + 2 * s)], [((54 + 2 * s, 3), 2, 60)], [], some (.inl (cI 0 0))), ([cR 0, cR (54 + 2 * s)], [], [], some (.inl (cI 1 1)))]) := by
  intro h as hh ha _ hf
  match as, ha with
  | [.ref a, .ref b], ⟨h1, h2, _⟩ =>
    have h1 : a = 0 := h1
    have h2 : b = 54 + 2 * s := h2
    subst h1
    subst h2
    obtain ⟨h', r, p1, e, p2⟩ := sp_isAsSeenB (d := 0) hh hs ((eF h) ▸ hf f List.mem_cons_self)
    subst e
    have S6 := (isS_at s hs).2.2.2.2.2
    refine ⟨h', r, p1, hh, fun _ _ _ => rfl, ?_⟩
    rcases p2 with rfl | ⟨rfl, q⟩
    · exact ⟨_, List.mem_cons_of_mem _ List.mem_cons_self, ⟨rfl, rfl, trivial⟩, fun _ hq => absurd hq List.not_mem_nil, fun _ hq => absurd hq List.not_mem_nil, ⟨by decide, by decide⟩⟩
    · refine ⟨_, List.mem_cons_self, ⟨rfl, rfl, trivial⟩, fun k hk => ?_, fun _ hq => absurd hq List.not_mem_nil, ⟨by decide, by decide⟩⟩
      rw [List.mem_singleton.mp hk]
      have hn : gn h' (54 + 2 * s) 3 ≤ 60 := gn_hi hh S6 (by decide)
      have tn := nJ_toInt (n := gn h' (54 + 2 * s) 3) (by omega)
      refine ⟨_, (ld_gi hh S6).1, ?_, ?_⟩
      · rw [gi_gn hh S6 (by decide), tn]; show (2 : Int) ≤ _; omega
      · rw [gi_gn hh S6 (by decide), tn]; show _ ≤ (60 : Int); omega
theorem sp_seenB {v : Nat} (hh : HH h) (v7 : v ≤ 7) : Sp (d + 1) 343 h [.ref 77, .int (nJ v)] (fun h' r => h' = h ∧ ∃ y : Int32, r = some (.int y)) := by
  refine Sp_of aiX9_seenPlace rfl rfl rfl ?_
  have L0 : pm_get (lv_args 0 [.ref 77, .int (nJ v)]) 0 = some (.ref 77) := rfl
  have L1 : pm_get (lv_args 0 [.ref 77, .int (nJ v)]) 1 = some (.int (nJ v)) := rfl
  generalize lv_args 0 [.ref 77, .int (nJ v)] = lv at L0 L1 ⊢
  refine E_al rfl L0 ?_
  refine E_gr rfl hh (q := 91) rfl ?_
  refine E_il rfl L1 ?_
  refine E_ial rfl hh rfl (by omega) (by decide) rfl ?_
  refine E_c rfl ?_
  by_cases b : gi h 91 v = -1
  · refine E_icF rfl (decide_eq_false (fun q => q b)) ?_
    refine E_c rfl ?_
    refine E_goto rfl ?_
    exact E_rti rfl ⟨rfl, _, rfl⟩
  · refine E_icT rfl (decide_eq_true b) ?_
    refine E_al rfl L0 ?_
    refine E_gr rfl hh (q := 91) rfl ?_
    refine E_il rfl L1 ?_
    refine E_ial rfl hh rfl (by omega) (by decide) rfl ?_
    exact E_rti rfl ⟨rfl, _, rfl⟩
theorem so_loop {s : Nat} (hh : HH h) (hs : s < 4) (F : LDf 80 (60 * s) 2 0 7 79 s h) (j : Nat) : ∀ {k : Nat} (lv : List (Nat × Value)), gn h 79 s ≤ 2 * k + j → k ≤ 31 → pm_get lv 0 = some (.ref 77) → pm_get lv 1 = some (.int (nJ s)) → pm_get lv 2 = some (.int (nJ (2 * k))) → Ends (pm_at tX9_isSo) (pm_Rt pm_P (d + 1)) (2, lv, [], h, 0, 0) (fun h' r => h' = h ∧ (r = some (.int 1) ∨ (r = some (.int 0) ∧ 1 ≤ gn h 79 s))) := by
  have b79 : bd 79 s = some (0, 60) := bd_u rfl (by omega)
  have hn : gn h 79 s ≤ 60 := gn_hi hh b79 (by decide)
  have yes : ∀ (lv : List (Nat × Value)), Ends (pm_at tX9_isSo) (pm_Rt pm_P (d + 1)) (54, lv, [], h, 0, 0) (fun h' r => h' = h ∧ (r = some (.int 1) ∨ (r = some (.int 0) ∧ 1 ≤ gn h 79 s))) := by
    intro lv
    refine E_c rfl ?_
    exact E_rtz rfl (.inr rfl) ⟨rfl, .inl rfl⟩
  induction j with
  | zero =>
    intro k lv hj hk L0 L1 L2
    refine E_il rfl L2 ?_
    refine E_al rfl L0 ?_
    refine E_gr rfl hh (q := 79) rfl ?_
    refine E_il rfl L1 ?_
    refine E_ial rfl hh rfl (by omega) (by decide) (gi_gn hh b79 (by decide)) ?_
    refine E_icT rfl (decide_eq_true ((nJ_le (by omega) (by omega)).mpr (by omega))) ?_
    exact yes lv
  | succ j ih =>
    intro k lv hj hk L0 L1 L2
    refine E_il rfl L2 ?_
    refine E_al rfl L0 ?_
    refine E_gr rfl hh (q := 79) rfl ?_
    refine E_il rfl L1 ?_
    refine E_ial rfl hh rfl (by omega) (by decide) (gi_gn hh b79 (by decide)) ?_
    by_cases b0 : gn h 79 s ≤ 2 * k
    · refine E_icT rfl (decide_eq_true ((nJ_le (by omega) (by omega)).mpr b0)) ?_
      exact yes lv
    refine E_icF rfl (decide_eq_false (fun q => b0 ((nJ_le (by omega) (by omega)).mp q))) ?_
    obtain ⟨x, e1, e2, e3⟩ := F (gi h 79 s) k (ld_gi hh b79).1 (by rw [gi_gn hh b79 (by decide), nJ_toInt (by omega)]; omega)
    have ex : gl h 80 (60 * s + 2 * k) = x := by
      rw [ld_gl hh (len := 240) rfl] at e1
      injection e1 with e1
      injection e1
    refine E_al rfl L0 ?_
    refine E_al rfl L0 ?_
    refine E_gr rfl hh (q := 80) rfl ?_
    refine E_ci 60 rfl (by decide) ?_
    refine E_il rfl L1 ?_
    refine E_bin rfl (nJ_mulE _ _) ?_
    refine E_il rfl L2 ?_
    refine E_bin rfl (nJ_add _ _) ?_
    refine E_lal (len := 240) rfl hh rfl (by omega) (by decide) ?_
    refine E_l2i rfl (show (gl h 80 (60 * s + 2 * k)).toInt32 = nJ x.toInt.toNat from by
      rw [ex]
      apply Int32.toInt_inj.mp
      rw [Int64.toInt_toInt32, nJ_toInt (by omega), Int.bmod_eq_of_le (by omega) (by omega)]
      omega) ?_
    refine E_call rfl (sp_seenB (d := d) hh (by omega)) (chk77 hh rfl rfl (by show 0 ≤ 8; decide)) (fun h1 r1 => ?_)
    rintro ⟨f1, y, f2⟩
    rw [f1, f2]
    refine E_i2l rfl ?_
    refine E_al rfl L0 ?_
    refine E_gr rfl hh (q := 80) rfl ?_
    refine E_ci 60 rfl (by decide) ?_
    refine E_il rfl L1 ?_
    refine E_bin rfl (nJ_mulE _ _) ?_
    refine E_il rfl L2 ?_
    refine E_bin rfl (nJ_add _ _) ?_
    refine E_ci 1 rfl (by decide) ?_
    refine E_bin rfl (nJ_add _ _) ?_
    refine E_lal (len := 240) rfl hh rfl (by omega) (by decide) ?_
    refine E_lcmp rfl ?_
    by_cases b1 : lg_cmp y.toInt64 (gl h 80 (60 * s + 2 * k + 1)) = 0
    · refine E_ifT rfl (decide_eq_true b1) ?_
      refine E_inc rfl L2 (show nJ (2 * k) + 2 = nJ (2 * (k + 1)) from nJ_add (2 * k) 2) (fun lv2 N2 kp2 => ?_)
      refine E_goto rfl ?_
      exact ih lv2 (by omega) (by omega) (kp2 0 _ (by decide) rfl L0) (kp2 1 _ (by decide) rfl L1) N2
    · refine E_ifF rfl (decide_eq_false b1) ?_
      refine E_c rfl ?_
      exact E_rtz rfl (.inl rfl) ⟨rfl, .inr ⟨rfl, by omega⟩⟩
theorem sp_isSoB {s : Nat} (hh : HH h) (hs : s < 4) (F : LDf 80 (60 * s) 2 0 7 79 s h) : Sp (d + 2) 280 h [.ref 77, .int (nJ s)] (fun h' r => h' = h ∧ (r = some (.int 1) ∨ (r = some (.int 0) ∧ 1 ≤ gn h 79 s))) := by
  refine Sp_of aiX9_isSo rfl rfl rfl ?_
  have L0 : pm_get (lv_args 0 [.ref 77, .int (nJ s)]) 0 = some (.ref 77) := rfl
  have L1 : pm_get (lv_args 0 [.ref 77, .int (nJ s)]) 1 = some (.int (nJ s)) := rfl
  generalize lv_args 0 [.ref 77, .int (nJ s)] = lv at L0 L1 ⊢
  refine E_ci 0 rfl (by decide) ?_
  refine E_is rfl (fun lv1 K2 kp => ?_)
  have hn : gn h 79 s ≤ 60 := gn_hi hh (bd_u rfl (by omega)) (by decide)
  exact so_loop hh hs F 60 (k := 0) lv1 (by omega) (by omega) (kp 0 _ (by decide) rfl L0) (kp 1 _ (by decide) rfl L1) K2
theorem so_sum {s f : Nat} {i : Int} (hs : s < 4) (hi : i = (s : Int)) (eF : ∀ h, w0.1.2.1 f h = LDf 80 (60 * s) 2 0 7 79 s h) : sum_g w0 (pm_Rt pm_P 2) (280, [cR 77, cI i i], [], [f], [], [([cR 77, cI i i], [((79, s), 1, 60)], [], some (.inl (cI 0 0))), ([cR 77, cI i i], [], [], some (.inl (cI 1 1)))]) := by
  intro h as hh ha _ hf
  match as, ha with
  | [.ref a, .int x], ⟨h1, h2, _⟩ =>
    have h1 : a = 77 := h1
    have h2 : i ≤ x.toInt ∧ x.toInt ≤ i := h2
    subst h1
    have hx : x = nJ s := Int32.toInt_inj.mp (by rw [nJ_toInt (by omega)]; omega)
    obtain ⟨h', r, p1, e, p2⟩ := sp_isSoB (d := 0) hh hs ((eF h) ▸ hf f List.mem_cons_self)
    subst e
    have b79 : bd 79 s = some (0, 60) := bd_u rfl (by omega)
    refine ⟨h', r, by rw [hx]; exact p1, hh, fun _ _ _ => rfl, ?_⟩
    rcases p2 with rfl | ⟨rfl, q⟩
    · exact ⟨_, List.mem_cons_of_mem _ List.mem_cons_self, ⟨rfl, h2, trivial⟩, fun _ hq => absurd hq List.not_mem_nil, fun _ hq => absurd hq List.not_mem_nil, ⟨by decide, by decide⟩⟩
    · refine ⟨_, List.mem_cons_self, ⟨rfl, h2, trivial⟩, fun k hk => ?_, fun _ hq => absurd hq List.not_mem_nil, ⟨by decide, by decide⟩⟩
      rw [List.mem_singleton.mp hk]
      have hn : gn h' 79 s ≤ 60 := gn_hi hh b79 (by decide)
      have tn := nJ_toInt (n := gn h' 79 s) (by omega)
      refine ⟨_, (ld_gi hh b79).1, ?_, ?_⟩
      · rw [gi_gn hh b79 (by decide), tn]; show (1 : Int) ≤ _; omega
      · rw [gi_gn hh b79 (by decide), tn]; show _ ≤ (60 : Int); omega
theorem asq0 : sum_g w0 (pm_Rt pm_P 1) (124, [cR 0, cR 54], [], [271], [], [([cR 0, cR 54], [((54, 3), 2, 60)], [], some (.inl (cI 0 0))), ([cR 0, cR 54], [], [], some (.inl (cI 1 1)))]) := as_sum (s := 0) (by omega) (fun _ => rfl)
theorem asq1 : sum_g w0 (pm_Rt pm_P 1) (124, [cR 0, cR 56], [], [333], [], [([cR 0, cR 56], [((56, 3), 2, 60)], [], some (.inl (cI 0 0))), ([cR 0, cR 56], [], [], some (.inl (cI 1 1)))]) := as_sum (s := 1) (by omega) (fun _ => rfl)
theorem asq2 : sum_g w0 (pm_Rt pm_P 1) (124, [cR 0, cR 58], [], [395], [], [([cR 0, cR 58], [((58, 3), 2, 60)], [], some (.inl (cI 0 0))), ([cR 0, cR 58], [], [], some (.inl (cI 1 1)))]) := as_sum (s := 2) (by omega) (fun _ => rfl)
theorem asq3 : sum_g w0 (pm_Rt pm_P 1) (124, [cR 0, cR 60], [], [457], [], [([cR 0, cR 60], [((60, 3), 2, 60)], [], some (.inl (cI 0 0))), ([cR 0, cR 60], [], [], some (.inl (cI 1 1)))]) := as_sum (s := 3) (by omega) (fun _ => rfl)
theorem soq0 : sum_g w0 (pm_Rt pm_P 2) (280, [cR 77, cI 0 0], [], [767], [], [([cR 77, cI 0 0], [((79, 0), 1, 60)], [], some (.inl (cI 0 0))), ([cR 77, cI 0 0], [], [], some (.inl (cI 1 1)))]) := so_sum (s := 0) (by omega) rfl (fun _ => rfl)
theorem soq1 : sum_g w0 (pm_Rt pm_P 2) (280, [cR 77, cI 1 1], [], [829], [], [([cR 77, cI 1 1], [((79, 1), 1, 60)], [], some (.inl (cI 0 0))), ([cR 77, cI 1 1], [], [], some (.inl (cI 1 1)))]) := so_sum (s := 1) (by omega) rfl (fun _ => rfl)
theorem soq2 : sum_g w0 (pm_Rt pm_P 2) (280, [cR 77, cI 2 2], [], [891], [], [([cR 77, cI 2 2], [((79, 2), 1, 60)], [], some (.inl (cI 0 0))), ([cR 77, cI 2 2], [], [], some (.inl (cI 1 1)))]) := so_sum (s := 2) (by omega) rfl (fun _ => rfl)
theorem soq3 : sum_g w0 (pm_Rt pm_P 2) (280, [cR 77, cI 3 3], [], [953], [], [([cR 77, cI 3 3], [((79, 3), 1, 60)], [], some (.inl (cI 0 0))), ([cR 77, cI 3 3], [], [], some (.inl (cI 1 1)))]) := so_sum (s := 3) (by omega) rfl (fun _ => rfl)
end SEE
end
section
/-! rows of long arrays, frames of one cell -/
theorem fr_one {M : List Rng} {h h' : pm_H} {c j l u : Nat} (hs : rg_sub M c l u = true) (h1 : l ≤ j) (h2 : j ≤ u) (hf : fr_g [(c, j, j)] h h') : fr_g M h h' := by
  intro b k hbk
  refine hf b k ?_
  cases hq : rg_in [(c, j, j)] b k with
  | false => rfl
  | true =>
    obtain ⟨r, hr, hc⟩ := List.any_eq_true.mp hq
    have er := List.mem_singleton.mp hr
    subst er
    simp only [Bool.and_eq_true] at hc
    have e1 : c = b := Nat.eq_of_beq_eq_true hc.1
    have e2 : j ≤ k := Nat.le_of_ble_eq_true hc.2.1
    have e3 : k ≤ j := Nat.le_of_ble_eq_true hc.2.2
    have e4 : k = j := by omega
    subst e1
    subst e4
    rw [rg_sub_in hs h1 h2] at hbk
    cases hbk
section SLT
variable {look : Nat → Option pm_I} {call : pm_Call} {Q : pm_H → Option Value → Prop} {pc n i t : Nat} {lv : List (Nat × Value)} {st : List Value} {w : pm_H × Nat × Nat} {h : pm_H} {z : Nat × Nat}
theorem E_opT {a c k : Nat} {q : Int × Int} {v : Int32} {ty : FieldType} (h1 : look pc = some (.inl (s_putf c k ty n))) (hf : pm_fit ty (.int v) = true) (hh : HH h) (hc : ciO a = some c) (hb : bd a k = some q) (kk : Ends look call (n, lv, st, pt h a k v, z) Q) : Ends look call (pc, lv, .int v :: .ref a :: st, h, z) Q := by
  obtain ⟨vs, hx, hv⟩ := obO hh hc
  have h2 := (ld_gi hh hb).1
  have h3 : vs[k]? = some (.int (gi h a k)) := by
    unfold ld at h2
    rw [hx] at h2
    exact h2
  have h4 : Nat.blt k vs.length = true := Nat.ble_eq_true_of_le (List.getElem?_eq_some_iff.mp h3).1
  have h5 : pt h a k v = h.set a (.inr (c, vs.set k (.int v))) := by unfold pt; rw [hx]
  refine E_st h1 ?_ kk
  simp only [s_putf, hx, h4, h5, hf, Nat.beq_refl, Bool.and_self, cond_true]
theorem E_las {a len j : Nat} {v : Int64} (h1 : look pc = some (.inl (s_last n))) (hh : HH h) (hc : hs0[a]? = some (.inr (.inl len))) (hj : j < len) (hj2 : len < 2147483648) (kk : ∀ h', HH h' → fr_g [(a, j, j)] h h' → gl h' a j = v → Ends look call (n, lv, st, h', z) Q) : Ends look call (pc, lv, .long v :: .int (nJ j) :: .ref a :: st, h, z) Q := by
  obtain ⟨x, hx, hg⟩ := hs_at hh hc
  match x, hx, hg with
  | .inl (t2, len2, .inr (.inl f)), hx, hg =>
    obtain ⟨rfl, rfl⟩ := hg
    have h2 := nJ_toInt (n := j) (by omega)
    have h3 : pm_ix (nJ j) len2 = true := ai_ix (by omega) (by omega)
    have h4 : (nJ j).toNatClampNeg = j := by show (nJ j).toInt.toNat = j; omega
    have hl := (List.getElem?_eq_some_iff.mp hx).1
    refine E_st h1 (σ' := (n, lv, st, h.set a (.inl (3, len2, .inr (.inl (vp_updL f j v)))), z)) ?_ (kk _ (hs_set hh hc ⟨rfl, rfl⟩) ?_ ?_)
    · simp only [s_last, hx, h3, h4, cond_true]
    · intro b k hbk
      by_cases e : b = a
      · subst e
        have hk : k ≠ j := fun q => by
          rw [q, rg_in_one (Nat.le_refl _) (Nat.le_refl _) (List.mem_singleton_self _)] at hbk
          cases hbk
        unfold ld
        rw [List.getElem?_set_self hl, hx]
        show some (Value.long (vp_updL f j v k)) = some (Value.long (f k))
        unfold vp_updL
        rw [if_neg hk]
      · unfold ld
        rw [List.getElem?_set_ne (Ne.symm e)]
    · unfold gl ld
      rw [List.getElem?_set_self hl]
      show vp_updL f j v j = v
      unfold vp_updL
      rw [if_pos rfl]
end SLT
end
section
/-! by hand: paste of the reference (its summary S961 in place of the executor's check; wants t7, t31's rows) -/
noncomputable def PF9 : List Rng := [(77, 0, 0), (80, 0, 239), (81, 0, 59)]
noncomputable def PbQ (h : pm_H) (x i y j n : Int32) (h' : pm_H) (r : Option Value) : Prop := HH h' ∧ fr_g PF9 h h' ∧ ((∃ v : Int32, r = some (.int v) ∧ -8 ≤ v.toInt ∧ v.toInt ≤ -2) ∨ (r = some (.int 0) ∧ 0 ≤ x.toInt ∧ x.toInt ≤ 3 ∧ 0 ≤ i.toInt ∧ i.toInt ≤ 60 ∧ 0 ≤ y.toInt ∧ y.toInt ≤ 3 ∧ 0 ≤ j.toInt ∧ j.toInt ≤ 60 ∧ 0 ≤ n.toInt ∧ n.toInt ≤ 60))
theorem i2l_addE (x y : Int32) : (x.toInt64 + y.toInt64).toInt = x.toInt + y.toInt := by
  have := ai_lo x
  have := ai_hi x
  have := ai_lo y
  have := ai_hi y
  rw [Int64.toInt_add, i2l_toInt, i2l_toInt]
  exact Int.bmod_eq_of_le (by omega) (by omega)
section PB9
variable {d s t a b n : Nat} {h0 : pm_H}
theorem pb9_b (ht : t < 4) (hb : b + n ≤ 60) (j : Nat) : ∀ {h : pm_H} {c : Nat} (lv : List (Nat × Value)), c + j = n → HH h → fr_g PF9 h0 h → pm_get lv 0 = some (.ref 77) → pm_get lv 3 = some (.int (nJ t)) → pm_get lv 4 = some (.int (nJ b)) → pm_get lv 5 = some (.int (nJ n)) → pm_get lv 6 = some (.int (nJ c)) → Ends (pm_at tX9_paste) (pm_Rt pm_P d) (155, lv, [], h, 0, 0) (fun h' r => HH h' ∧ fr_g PF9 h0 h' ∧ r = some (.int 0)) := by
  induction j with
  | zero =>
    intro h c lv hj hh hf L0 L3 L4 L5 L6
    refine E_il rfl L6 ?_
    refine E_il rfl L5 ?_
    refine E_icT rfl (decide_eq_true ((nJ_le (by omega) (by omega)).mpr (by omega))) ?_
    refine E_c rfl ?_
    exact E_rti rfl ⟨hh, hf, rfl⟩
  | succ j ih =>
    intro h c lv hj hh hf L0 L3 L4 L5 L6
    refine E_il rfl L6 ?_
    refine E_il rfl L5 ?_
    refine E_icF rfl (decide_eq_false (fun q => absurd ((nJ_le (by omega) (by omega)).mp q) (by omega))) ?_
    refine E_al rfl L0 ?_
    refine E_gr rfl hh (q := 80) rfl ?_
    refine E_ci 60 rfl (by decide) ?_
    refine E_il rfl L3 ?_
    refine E_bin rfl (nJ_mulE _ _) ?_
    refine E_il rfl L4 ?_
    refine E_bin rfl (nJ_add _ _) ?_
    refine E_il rfl L6 ?_
    refine E_bin rfl (nJ_add _ _) ?_
    refine E_al rfl L0 ?_
    refine E_gr rfl hh (q := 81) rfl ?_
    refine E_il rfl L6 ?_
    refine E_lal rfl hh rfl (by omega) (by decide) ?_
    refine E_las rfl hh rfl (by omega) (by decide) (fun h1 hh1 f1 _ => ?_)
    refine E_inc rfl L6 (nJ_inc _) (fun lv1 K6 kp => ?_)
    refine E_goto rfl ?_
    exact ih lv1 (by omega) hh1 (fr_trans hf (fr_one (l := 0) (u := 239) rfl (by omega) (by omega) f1)) (kp 0 _ (by decide) rfl L0) (kp 3 _ (by decide) rfl L3) (kp 4 _ (by decide) rfl L4) (kp 5 _ (by decide) rfl L5) K6
theorem pb9_a (hs : s < 4) (ht : t < 4) (ha : a + n ≤ 60) (hb : b + n ≤ 60) (j : Nat) : ∀ {h : pm_H} {c : Nat} (lv : List (Nat × Value)), c + j = n → HH h → fr_g PF9 h0 h → pm_get lv 0 = some (.ref 77) → pm_get lv 1 = some (.int (nJ s)) → pm_get lv 2 = some (.int (nJ a)) → pm_get lv 3 = some (.int (nJ t)) → pm_get lv 4 = some (.int (nJ b)) → pm_get lv 5 = some (.int (nJ n)) → pm_get lv 6 = some (.int (nJ c)) → Ends (pm_at tX9_paste) (pm_Rt pm_P d) (118, lv, [], h, 0, 0) (fun h' r => HH h' ∧ fr_g PF9 h0 h' ∧ r = some (.int 0)) := by
  induction j with
  | zero =>
    intro h c lv hj hh hf L0 L1 L2 L3 L4 L5 L6
    refine E_il rfl L6 ?_
    refine E_il rfl L5 ?_
    refine E_icT rfl (decide_eq_true ((nJ_le (by omega) (by omega)).mpr (by omega))) ?_
    refine E_ci 0 rfl (by decide) ?_
    refine E_is rfl (fun lv1 K6 kp => ?_)
    exact pb9_b ht hb n (c := 0) lv1 (by omega) hh hf (kp 0 _ (by decide) rfl L0) (kp 3 _ (by decide) rfl L3) (kp 4 _ (by decide) rfl L4) (kp 5 _ (by decide) rfl L5) K6
  | succ j ih =>
    intro h c lv hj hh hf L0 L1 L2 L3 L4 L5 L6
    refine E_il rfl L6 ?_
    refine E_il rfl L5 ?_
    refine E_icF rfl (decide_eq_false (fun q => absurd ((nJ_le (by omega) (by omega)).mp q) (by omega))) ?_
    refine E_al rfl L0 ?_
    refine E_gr rfl hh (q := 81) rfl ?_
    refine E_il rfl L6 ?_
    refine E_al rfl L0 ?_
    refine E_gr rfl hh (q := 80) rfl ?_
    refine E_ci 60 rfl (by decide) ?_
    refine E_il rfl L1 ?_
    refine E_bin rfl (nJ_mulE _ _) ?_
    refine E_il rfl L2 ?_
    refine E_bin rfl (nJ_add _ _) ?_
    refine E_il rfl L6 ?_
    refine E_bin rfl (nJ_add _ _) ?_
    refine E_lal rfl hh rfl (by omega) (by decide) ?_
    refine E_las rfl hh rfl (by omega) (by decide) (fun h1 hh1 f1 _ => ?_)
    refine E_inc rfl L6 (nJ_inc _) (fun lv1 K6 kp => ?_)
    refine E_goto rfl ?_
    exact ih lv1 (by omega) hh1 (fr_trans hf (fr_one (l := 0) (u := 59) rfl (by omega) (by omega) f1)) (kp 0 _ (by decide) rfl L0) (kp 1 _ (by decide) rfl L1) (kp 2 _ (by decide) rfl L2) (kp 3 _ (by decide) rfl L3) (kp 4 _ (by decide) rfl L4) (kp 5 _ (by decide) rfl L5) K6
theorem sp_paste9E {h : pm_H} {x i y j n : Int32} (hh : HH h) : Sp (d + 3) 323 h [.ref 77, .int x, .int i, .int y, .int j, .int n] (PbQ h x i y j n) := by
  refine Sp_of aiX9_paste rfl rfl rfl ?_
  have L0 : pm_get (lv_args 0 [.ref 77, .int x, .int i, .int y, .int j, .int n]) 0 = some (.ref 77) := rfl
  have L1 : pm_get (lv_args 0 [.ref 77, .int x, .int i, .int y, .int j, .int n]) 1 = some (.int x) := rfl
  have L2 : pm_get (lv_args 0 [.ref 77, .int x, .int i, .int y, .int j, .int n]) 2 = some (.int i) := rfl
  have L3 : pm_get (lv_args 0 [.ref 77, .int x, .int i, .int y, .int j, .int n]) 3 = some (.int y) := rfl
  have L4 : pm_get (lv_args 0 [.ref 77, .int x, .int i, .int y, .int j, .int n]) 4 = some (.int j) := rfl
  have L5 : pm_get (lv_args 0 [.ref 77, .int x, .int i, .int y, .int j, .int n]) 5 = some (.int n) := rfl
  generalize lv_args 0 [.ref 77, .int x, .int i, .int y, .int j, .int n] = lv at L0 L1 L2 L3 L4 L5 ⊢
  have z0 : (0 : Int32).toInt = 0 := rfl
  refine E_al rfl L0 ?_
  refine E_ci 0 rfl (by decide) ?_
  refine E_pf rfl hh rfl ?_
  have hg : HH (pt h 77 0 (nJ 0)) := HH_ptn hh rfl (by omega) (by omega) (by omega)
  have fg : fr_g PF9 h (pt h 77 0 (nJ 0)) := fr_ptr (l := 0) (u := 0) rfl (by omega) (by omega) (fr_rf _ _)
  have no : Ends (pm_at tX9_paste) (pm_Rt pm_P (d + 2)) (19, lv, [], pt h 77 0 (nJ 0), 0, 0) (PbQ h x i y j n) := by
    refine E_c rfl ?_
    exact E_rti rfl ⟨hg, fg, .inl ⟨_, rfl, by decide, by decide⟩⟩
  refine E_il rfl L1 ?_
  refine E_call rfl sp_isSlot (chkS rfl (by show 0 ≤ 8; decide)) (fun h1 r1 => ?_)
  rintro ⟨e1, f1⟩
  rw [e1, f1]
  by_cases b0 : 0 ≤ x.toInt ∧ x.toInt ≤ 3
  · refine E_ifF rfl (by rw [zb_T b0]; rfl) ?_
    refine E_il rfl L3 ?_
    refine E_call rfl sp_isSlot (chkS rfl (by show 0 ≤ 8; decide)) (fun h2 r2 => ?_)
    rintro ⟨e2, f2⟩
    rw [e2, f2]
    by_cases c0 : 0 ≤ y.toInt ∧ y.toInt ≤ 3
    · refine E_ifT rfl (by rw [zb_T c0]; rfl) ?_
      obtain ⟨s, hs, rfl⟩ : ∃ s, s < 4 ∧ x = nJ s := ⟨x.toInt.toNat, by omega, nJ_of b0.1⟩
      obtain ⟨t, ht, rfl⟩ : ∃ s, s < 4 ∧ y = nJ s := ⟨y.toInt.toNat, by omega, nJ_of c0.1⟩
      refine E_al rfl L0 ?_
      refine E_gr rfl hg (q := 78) rfl ?_
      refine E_il rfl L1 ?_
      refine E_ial (v := gi h 78 s) rfl hg rfl (by omega) (by decide) (gi_ne (by omega)) ?_
      refine E_c rfl ?_
      by_cases b1 : gi h 78 s = -1
      · refine E_icT rfl (decide_eq_true b1) ?_
        refine E_c rfl ?_
        exact E_rti rfl ⟨hg, fg, .inl ⟨_, rfl, by decide, by decide⟩⟩
      refine E_icF rfl (decide_eq_false b1) ?_
      refine E_al rfl L0 ?_
      refine E_gr rfl hg (q := 78) rfl ?_
      refine E_il rfl L3 ?_
      refine E_ial (v := gi h 78 t) rfl hg rfl (by omega) (by decide) (gi_ne (by omega)) ?_
      refine E_c rfl ?_
      by_cases b2 : gi h 78 t = -1
      · refine E_icF rfl (decide_eq_false (fun q => q b2)) ?_
        refine E_c rfl ?_
        exact E_rti rfl ⟨hg, fg, .inl ⟨_, rfl, by decide, by decide⟩⟩
      refine E_icT rfl (decide_eq_true b2) ?_
      refine E_al rfl L0 ?_
      refine E_gr rfl hg (q := 78) rfl ?_
      refine E_il rfl L1 ?_
      refine E_ial (v := gi h 78 s) rfl hg rfl (by omega) (by decide) (gi_ne (by omega)) ?_
      refine E_al rfl L0 ?_
      refine E_gr rfl hg (q := 78) rfl ?_
      refine E_il rfl L3 ?_
      refine E_ial (v := gi h 78 t) rfl hg rfl (by omega) (by decide) (gi_ne (by omega)) ?_
      by_cases b3 : gi h 78 s = gi h 78 t
      · refine E_icT rfl (decide_eq_true b3) ?_
        have g1 := (ld_gi hh (a := 79) (k := s) (bd_u rfl (by omega))).2
        have g2 := (ld_gi hh (a := 79) (k := t) (bd_u rfl (by omega))).2
        dsimp only at g1 g2
        have no7 : Ends (pm_at tX9_paste) (pm_Rt pm_P (d + 2)) (112, lv, [], pt h 77 0 (nJ 0), 0, 0) (PbQ h (nJ s) i (nJ t) j n) := by
          refine E_c rfl ?_
          exact E_rti rfl ⟨hg, fg, .inl ⟨_, rfl, by decide, by decide⟩⟩
        refine E_il rfl L2 ?_
        by_cases k1 : i < 0
        · have q := Int32.lt_iff_toInt_lt.mp k1
          refine E_ifT rfl (decide_eq_true k1) ?_
          exact no7
        have q1 : ¬ i.toInt < (0 : Int32).toInt := fun z => k1 (Int32.lt_iff_toInt_lt.mpr z)
        refine E_ifF rfl (decide_eq_false k1) ?_
        refine E_il rfl L4 ?_
        by_cases k2 : j < 0
        · have q := Int32.lt_iff_toInt_lt.mp k2
          refine E_ifT rfl (decide_eq_true k2) ?_
          exact no7
        have q2 : ¬ j.toInt < (0 : Int32).toInt := fun z => k2 (Int32.lt_iff_toInt_lt.mpr z)
        refine E_ifF rfl (decide_eq_false k2) ?_
        refine E_il rfl L5 ?_
        by_cases k3 : n < 0
        · have q := Int32.lt_iff_toInt_lt.mp k3
          refine E_ifT rfl (decide_eq_true k3) ?_
          exact no7
        have q3 : ¬ n.toInt < (0 : Int32).toInt := fun z => k3 (Int32.lt_iff_toInt_lt.mpr z)
        refine E_ifF rfl (decide_eq_false k3) ?_
        refine E_il rfl L2 ?_
        refine E_i2l rfl ?_
        refine E_il rfl L5 ?_
        refine E_i2l rfl ?_
        refine E_lbin rfl ?_
        refine E_al rfl L0 ?_
        refine E_gr rfl hg (q := 79) rfl ?_
        refine E_il rfl L1 ?_
        refine E_ial (v := gi h 79 s) rfl hg rfl (by omega) (by decide) (gi_ne (by omega)) ?_
        refine E_i2l rfl ?_
        refine E_lcmp rfl ?_
        by_cases k4 : (gi h 79 s).toInt < i.toInt + n.toInt
        · refine E_ifT rfl (decide_eq_true ((lg_cmp_gt _ _).mpr (by rw [Int64.lt_iff_toInt_lt, i2l_addE, i2l_toInt]; omega))) ?_
          exact no7
        refine E_ifF rfl (decide_eq_false (fun q => absurd ((lg_cmp_gt _ _).mp q) (by rw [Int64.lt_iff_toInt_lt, i2l_addE, i2l_toInt]; omega))) ?_
        refine E_il rfl L4 ?_
        refine E_i2l rfl ?_
        refine E_il rfl L5 ?_
        refine E_i2l rfl ?_
        refine E_lbin rfl ?_
        refine E_al rfl L0 ?_
        refine E_gr rfl hg (q := 79) rfl ?_
        refine E_il rfl L3 ?_
        refine E_ial (v := gi h 79 t) rfl hg rfl (by omega) (by decide) (gi_ne (by omega)) ?_
        refine E_i2l rfl ?_
        refine E_lcmp rfl ?_
        by_cases k5 : j.toInt + n.toInt ≤ (gi h 79 t).toInt
        · refine E_ifT rfl (decide_eq_true ((lg_cmp_le _ _).mpr (by rw [Int64.le_iff_toInt_le, i2l_addE, i2l_toInt]; omega))) ?_
          obtain ⟨a, ha, rfl⟩ : ∃ k, k ≤ 60 ∧ i = nJ k := ⟨i.toInt.toNat, by omega, nJ_of (by omega)⟩
          obtain ⟨b, hb, rfl⟩ : ∃ k, k ≤ 60 ∧ j = nJ k := ⟨j.toInt.toNat, by omega, nJ_of (by omega)⟩
          obtain ⟨m, hm, rfl⟩ : ∃ k, k ≤ 60 ∧ n = nJ k := ⟨n.toInt.toNat, by omega, nJ_of (by omega)⟩
          have ea := nJ_toInt (n := a) (by omega)
          have eb := nJ_toInt (n := b) (by omega)
          have em := nJ_toInt (n := m) (by omega)
          refine E_ci 0 rfl (by decide) ?_
          refine E_is rfl (fun lv1 K6 kp => ?_)
          refine Ends_mono ?_ (pb9_a hs ht (by omega) (by omega) m (c := 0) lv1 (by omega) hg fg (kp 0 _ (by decide) rfl L0) (kp 1 _ (by decide) rfl L1) (kp 2 _ (by decide) rfl L2) (kp 3 _ (by decide) rfl L3) (kp 4 _ (by decide) rfl L4) (kp 5 _ (by decide) rfl L5) K6)
          rintro h' r ⟨u1, u2, u3⟩
          exact ⟨u1, u2, .inr ⟨u3, by omega, by omega, by omega, by omega, by omega, by omega, by omega, by omega, by omega, by omega⟩⟩
        · refine E_ifF rfl (decide_eq_false (fun q => absurd ((lg_cmp_le _ _).mp q) (by rw [Int64.le_iff_toInt_le, i2l_addE, i2l_toInt]; omega))) ?_
          exact no7
      · refine E_icF rfl (decide_eq_false b3) ?_
        refine E_c rfl ?_
        exact E_rti rfl ⟨hg, fg, .inl ⟨_, rfl, by decide, by decide⟩⟩
    · refine E_ifF rfl (by rw [zb_F c0]; rfl) ?_
      exact no
  · refine E_ifT rfl (by rw [zb_F b0]; rfl) ?_
    exact no
end PB9
set_option maxRecDepth 20000 in
theorem paq : sum_g w0 (pm_Rt pm_P 3) (323, [cR 77, cI (-2147483648) 2147483647, cI (-2147483648) 2147483647, cI (-2147483648) 2147483647, cI (-2147483648) 2147483647, cI (-2147483648) 2147483647], [], [], [(77, 0, 0), (80, 0, 239), (81, 0, 59)], [([cR 77, cI (-2147483648) 2147483647, cI (-2147483648) 2147483647, cI (-2147483648) 2147483647, cI (-2147483648) 2147483647, cI (-2147483648) 2147483647], [], [], some (.inl (cI (-8) (-2)))), ([cR 77, cI 0 3, cI 0 60, cI 0 3, cI 0 60, cI 0 60], [], [], some (.inl (cI 0 0)))]) := by
  intro h as hh ha _ _
  match as, ha with
  | [.ref a, .int x, .int i, .int y, .int j, .int n], ⟨h1, _⟩ =>
    have h1 : a = 77 := h1
    subst h1
    obtain ⟨h', r, p1, hh', fr, p2⟩ := sp_paste9E (d := 0) (x := x) (i := i) (y := y) (j := j) (n := n) hh
    refine ⟨h', r, p1, hh', fr, ?_⟩
    rcases p2 with ⟨v, rfl, v1, v2⟩ | ⟨rfl, x1, x2, i1, i2, y1, y2, j1, j2, n1, n2⟩
    · exact ⟨_, List.mem_cons_self, ⟨rfl, ⟨ai_lo x, ai_hi x⟩, ⟨ai_lo i, ai_hi i⟩, ⟨ai_lo y, ai_hi y⟩, ⟨ai_lo j, ai_hi j⟩, ⟨ai_lo n, ai_hi n⟩, trivial⟩, fun _ hq => absurd hq List.not_mem_nil, fun _ hq => absurd hq List.not_mem_nil, ⟨v1, v2⟩⟩
    · exact ⟨_, List.mem_cons_of_mem _ List.mem_cons_self, ⟨rfl, ⟨x1, x2⟩, ⟨i1, i2⟩, ⟨y1, y2⟩, ⟨j1, j2⟩, ⟨n1, n2⟩, trivial⟩, fun _ hq => absurd hq List.not_mem_nil, fun _ hq => absurd hq List.not_mem_nil, ⟨by decide, by decide⟩⟩
end
