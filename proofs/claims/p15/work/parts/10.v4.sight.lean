/-! by hand: sightRefusal (its summary S629 in place of the executor's check, which takes 500 s) -/
/-- a slot: its cell a, its numbers in cell c -/
noncomputable def isS (a c : Nat) : Prop := ciO a = some 4 ∧ frO a 0 = some c ∧ hs0[c]? = some (.inr (.inl 60)) ∧ bd a 1 = some (0, 1) ∧ bd a 2 = some (0, 3) ∧ bd a 3 = some (0, 60)
theorem isS_at : ∀ s, s < 4 → isS (54 + 2 * s) (55 + 2 * s)
  | 0, _ => ⟨rfl, rfl, rfl, rfl, rfl, rfl⟩
  | 1, _ => ⟨rfl, rfl, rfl, rfl, rfl, rfl⟩
  | 2, _ => ⟨rfl, rfl, rfl, rfl, rfl, rfl⟩
  | 3, _ => ⟨rfl, rfl, rfl, rfl, rfl, rfl⟩
  | s + 4, hs => absurd hs (by omega)
theorem slot_at : ∀ s, s < 4 → [some 54, some 56, some 58, some 60][s]? = some (some (54 + 2 * s))
  | 0, _ => rfl
  | 1, _ => rfl
  | 2, _ => rfl
  | 3, _ => rfl
  | s + 4, hs => absurd hs (by omega)
theorem ld_gl {h : pm_H} {a len k : Nat} (hh : HH h) (hc : hs0[a]? = some (.inr (.inl len))) : ld h a k = some (.long (gl h a k)) := by
  obtain ⟨x, hx, hg⟩ := hs_at hh hc
  match x, hx, hg with
  | .inl (t2, len2, .inr (.inl f)), hx, hg =>
    unfold gl ld
    rw [hx]
theorem E_dv {look : Nat → Option pm_I} {call : pm_Call} {Q : pm_H → Option Value → Prop} {pc n : Nat} {lv : List (Nat × Value)} {st : List Value} {w : pm_H × Nat × Nat} {op : Int32 → Int32 → Int32} {x y : Int32} (h1 : look pc = some (.inl (s_div op n))) (h0 : ¬ y = 0) (k : Ends look call (n, lv, .int (op x y) :: st, w) Q) : Ends look call (pc, lv, .int y :: .int x :: st, w) Q := E_st h1 (by simp only [s_div, if_neg h0]) k
theorem E_asr {look : Nat → Option pm_I} {call : pm_Call} {Q : pm_H → Option Value → Prop} {pc n i a : Nat} {lv : List (Nat × Value)} {st : List Value} {w : pm_H × Nat × Nat} (h1 : look pc = some (.inl (s_as i n))) (k : ∀ lv' : List (Nat × Value), pm_get lv' i = some (.ref a) → (∀ (j : Nat) (u : Value), j ≠ i → u.category = 1 → pm_get lv j = some u → pm_get lv' j = some u) → Ends look call (n, lv', st, w) Q) : Ends look call (pc, lv, .ref a :: st, w) Q :=
  E_st h1 rfl (k (pm_put1 i (.ref a) lv) gp_self (fun _ _ a b c => gp_ne a b c))
noncomputable def SgQ (h : pm_H) (x : Int32) (h' : pm_H) (r : Option Value) : Prop := h' = h ∧ ((∃ y : Int32, r = some (.int y) ∧ -6 ≤ y.toInt ∧ y.toInt ≤ -2) ∨ ∃ s, s < 4 ∧ x = nJ s ∧ r = some (.int 0) ∧ gi h (54 + 2 * s) 1 = 1 ∧ LDf (55 + 2 * s) 0 2 1 7 (54 + 2 * s) 3 h)
section SR
variable {h : pm_H} {d a c k : Nat} {x : Int32}
theorem sr_no {lv : List (Nat × Value)} : Ends (pm_at tX8_sightRefusal) (pm_Rt pm_P d) (147, lv, [], h, 0, 0) (SgQ h x) := by
  refine E_c rfl ?_
  exact E_rti rfl ⟨rfl, .inl ⟨_, rfl, by decide, by decide⟩⟩
theorem sr_c {u w : Nat} (lv : List (Nat × Value)) (hu : u ≤ 1) (hw : w ≤ 1) (hk : k ≤ 60) (L0 : pm_get lv 0 = some (.ref 0)) (L3 : pm_get lv 3 = some (.ref a)) (L4 : pm_get lv 4 = some (.int (nJ (2 * k)))) (L5 : pm_get lv 5 = some (.int (nJ w)))
    (K : w = 1 → ∀ lv : List (Nat × Value), pm_get lv 0 = some (.ref 0) → pm_get lv 3 = some (.ref a) → pm_get lv 4 = some (.int (nJ (2 * (k + 1)))) → Ends (pm_at tX8_sightRefusal) (pm_Rt pm_P d) (46, lv, [], h, 0, 0) (SgQ h x)) : Ends (pm_at tX8_sightRefusal) (pm_Rt pm_P d) (135, lv, [.int (nJ u)], h, 0, 0) (SgQ h x) := by
  refine E_is rfl (fun lv1 M6 kp => ?_)
  have M0 := kp 0 _ (by decide) rfl L0
  have M3 := kp 3 _ (by decide) rfl L3
  have M4 := kp 4 _ (by decide) rfl L4
  have M5 := kp 5 _ (by decide) rfl L5
  refine E_il rfl M5 ?_
  by_cases b5 : w = 0
  · refine E_ifT rfl (decide_eq_true ((nJ_eq0 (by omega)).mpr b5)) ?_
    exact sr_no
  · refine E_ifF rfl (decide_eq_false (fun q => b5 ((nJ_eq0 (by omega)).mp q))) ?_
    refine E_il rfl M6 ?_
    by_cases b6 : u = 0
    · refine E_ifF rfl (decide_eq_false (fun q => q ((nJ_eq0 (by omega)).mpr b6))) ?_
      exact sr_no
    · refine E_ifT rfl (decide_eq_true (fun q => b6 ((nJ_eq0 (by omega)).mp q))) ?_
      refine E_inc rfl M4 (show nJ (2 * k) + 2 = nJ (2 * (k + 1)) from nJ_add (2 * k) 2) (fun lv2 N4 kp2 => ?_)
      refine E_goto rfl ?_
      exact K (by omega) lv2 (kp2 0 _ (by decide) rfl M0) (kp2 3 _ (by decide) rfl M3) N4
theorem sr_b {w : Nat} (hh : HH h) (S : isS a c) (lv : List (Nat × Value)) (hw : w ≤ 1) (hk : 2 * k + 1 < 60) (L0 : pm_get lv 0 = some (.ref 0)) (L3 : pm_get lv 3 = some (.ref a)) (L4 : pm_get lv 4 = some (.int (nJ (2 * k))))
    (K : w = 1 → ∀ lv : List (Nat × Value), pm_get lv 0 = some (.ref 0) → pm_get lv 3 = some (.ref a) → pm_get lv 4 = some (.int (nJ (2 * (k + 1)))) → Ends (pm_at tX8_sightRefusal) (pm_Rt pm_P d) (46, lv, [], h, 0, 0) (SgQ h x)) : Ends (pm_at tX8_sightRefusal) (pm_Rt pm_P d) (93, lv, [.int (nJ w)], h, 0, 0) (SgQ h x) := by
  obtain ⟨S1, S2, S3, S4, S5, S6⟩ := S
  refine E_is rfl (fun lv1 M5 kp => ?_)
  have M0 := kp 0 _ (by decide) rfl L0
  have M3 := kp 3 _ (by decide) rfl L3
  have M4 := kp 4 _ (by decide) rfl L4
  refine E_al rfl M3 ?_
  refine E_ogr rfl hh S1 S2 ?_
  refine E_il rfl M4 ?_
  refine E_ci 1 rfl (by decide) ?_
  refine E_bin rfl (nJ_add _ _) ?_
  refine E_lal rfl hh S3 (by omega) (by decide) ?_
  refine E_c rfl ?_
  refine E_lcmp rfl ?_
  by_cases b1 : lg_cmp (gl h c (2 * k + 1)) 0 < 0
  · refine E_ifT rfl (decide_eq_true b1) ?_
    refine E_ci 0 rfl (by decide) ?_
    exact sr_c lv1 (by omega) hw (by omega) M0 M3 M4 M5 K
  · refine E_ifF rfl (decide_eq_false b1) ?_
    refine E_al rfl M3 ?_
    refine E_ogr rfl hh S1 S2 ?_
    refine E_il rfl M4 ?_
    refine E_ci 1 rfl (by decide) ?_
    refine E_bin rfl (nJ_add _ _) ?_
    refine E_lal rfl hh S3 (by omega) (by decide) ?_
    refine E_al rfl M0 ?_
    refine E_ogr rfl hh rfl (q := 15) rfl ?_
    refine E_ogf rfl hh rfl (q := (0, 8)) rfl rfl ?_
    refine E_i2l rfl ?_
    refine E_lcmp rfl ?_
    by_cases b2 : 0 < lg_cmp (gl h c (2 * k + 1)) (gi h 15 0).toInt64
    · refine E_ifT rfl (decide_eq_true b2) ?_
      refine E_ci 0 rfl (by decide) ?_
      exact sr_c lv1 (by omega) hw (by omega) M0 M3 M4 M5 K
    · refine E_ifF rfl (decide_eq_false b2) ?_
      refine E_ci 1 rfl (by decide) ?_
      refine E_goto rfl ?_
      exact sr_c lv1 (by omega) hw (by omega) M0 M3 M4 M5 K
theorem sr_loop {s : Nat} (hh : HH h) (hs : s < 4) (hx : x = nJ s) (hf : gi h (54 + 2 * s) 1 = 1) (j : Nat) : ∀ {k : Nat} (lv : List (Nat × Value)), gn h (54 + 2 * s) 3 ≤ 2 * k + j → k ≤ 30 → (∀ m, m < k → 0 ≤ (gl h (55 + 2 * s) (2 * m)).toInt ∧ (gl h (55 + 2 * s) (2 * m)).toInt ≤ 7) → pm_get lv 0 = some (.ref 0) → pm_get lv 3 = some (.ref (54 + 2 * s)) → pm_get lv 4 = some (.int (nJ (2 * k))) → Ends (pm_at tX8_sightRefusal) (pm_Rt pm_P d) (46, lv, [], h, 0, 0) (SgQ h x) := by
  obtain ⟨S1, S2, S3, S4, S5, S6⟩ := isS_at s hs
  have hn : gn h (54 + 2 * s) 3 ≤ 60 := gn_hi hh S6 (by decide)
  have yes : ∀ {k : Nat} (lv : List (Nat × Value)), gn h (54 + 2 * s) 3 ≤ 2 * k + 1 → (∀ m, m < k → 0 ≤ (gl h (55 + 2 * s) (2 * m)).toInt ∧ (gl h (55 + 2 * s) (2 * m)).toInt ≤ 7) → Ends (pm_at tX8_sightRefusal) (pm_Rt pm_P d) (156, lv, [], h, 0, 0) (SgQ h x) := by
    intro k lv hk hi
    refine E_ci 0 rfl (by decide) ?_
    refine E_rti rfl ⟨rfl, .inr ⟨s, hs, hx, rfl, hf, fun n m h1 h2 => ?_⟩⟩
    rw [(ld_gi hh S6).1] at h1
    cases h1
    have h3 : (gi h (54 + 2 * s) 3).toInt = gn h (54 + 2 * s) 3 := by rw [gi_gn hh S6 (by decide), nJ_toInt (by omega), gn_of (gi_gn hh S6 (by decide)) (by omega)]
    rw [Nat.zero_add]
    exact ⟨_, ld_gl hh S3, (hi m (by omega)).1, (hi m (by omega)).2⟩
  induction j with
  | zero =>
    intro k lv hj hk hi L0 L3 L4
    refine E_il rfl L4 ?_
    refine E_ci 1 rfl (by decide) ?_
    refine E_bin rfl (nJ_add _ _) ?_
    refine E_al rfl L3 ?_
    refine E_ogf rfl hh S1 S6 (gi_gn hh S6 (by decide)) ?_
    refine E_icT rfl (decide_eq_true ((nJ_le (by omega) (by omega)).mpr (by omega))) ?_
    exact yes lv (by omega) hi
  | succ j ih =>
    intro k lv hj hk hi L0 L3 L4
    refine E_il rfl L4 ?_
    refine E_ci 1 rfl (by decide) ?_
    refine E_bin rfl (nJ_add _ _) ?_
    refine E_al rfl L3 ?_
    refine E_ogf rfl hh S1 S6 (gi_gn hh S6 (by decide)) ?_
    by_cases b0 : gn h (54 + 2 * s) 3 ≤ 2 * k + 1
    · refine E_icT rfl (decide_eq_true ((nJ_le (by omega) (by omega)).mpr b0)) ?_
      exact yes lv b0 hi
    · refine E_icF rfl (decide_eq_false (fun q => b0 ((nJ_le (by omega) (by omega)).mp q))) ?_
      refine E_al rfl L3 ?_
      refine E_ogr rfl hh S1 S2 ?_
      refine E_il rfl L4 ?_
      refine E_lal rfl hh S3 (by omega) (by decide) ?_
      refine E_c rfl ?_
      refine E_lcmp rfl ?_
      by_cases b1 : lg_cmp (gl h (55 + 2 * s) (2 * k)) 0 < 0
      · refine E_ifT rfl (decide_eq_true b1) ?_
        refine E_ci 0 rfl (by decide) ?_
        exact sr_b hh (isS_at s hs) lv (by omega) (by omega) L0 L3 L4 (fun q => absurd q (by omega))
      · refine E_ifF rfl (decide_eq_false b1) ?_
        refine E_al rfl L3 ?_
        refine E_ogr rfl hh S1 S2 ?_
        refine E_il rfl L4 ?_
        refine E_lal rfl hh S3 (by omega) (by decide) ?_
        refine E_al rfl L0 ?_
        refine E_ogr rfl hh rfl (q := 15) rfl ?_
        have c8 : gn h 15 4 ≤ 8 := gn_hi hh rfl (by decide)
        refine E_ogf rfl hh rfl (q := (0, 8)) rfl (gi_gn hh rfl (by decide)) ?_
        refine E_i2l rfl ?_
        refine E_lcmp rfl ?_
        by_cases b2 : 0 ≤ lg_cmp (gl h (55 + 2 * s) (2 * k)) (nJ (gn h 15 4)).toInt64
        · refine E_ifT rfl (decide_eq_true b2) ?_
          refine E_ci 0 rfl (by decide) ?_
          exact sr_b hh (isS_at s hs) lv (by omega) (by omega) L0 L3 L4 (fun q => absurd q (by omega))
        · refine E_ifF rfl (decide_eq_false b2) ?_
          refine E_ci 1 rfl (by decide) ?_
          refine E_goto rfl ?_
          have g1 : 0 ≤ (gl h (55 + 2 * s) (2 * k)).toInt := by
            have q : ¬ gl h (55 + 2 * s) (2 * k) < 0 := fun z => b1 ((lg_cmp_lt _ _).mpr z)
            rw [Int64.lt_iff_toInt_lt] at q
            have z0 : (0 : Int64).toInt = 0 := rfl
            omega
          have g2 : (gl h (55 + 2 * s) (2 * k)).toInt ≤ 7 := by
            have q : ¬ (nJ (gn h 15 4)).toInt64 ≤ gl h (55 + 2 * s) (2 * k) := fun z => b2 ((lg_cmp_ge _ _).mpr z)
            rw [Int64.le_iff_toInt_le, i2l_nJ (by omega)] at q
            omega
          exact sr_b hh (isS_at s hs) lv (by omega) (by omega) L0 L3 L4 (fun _ lv' N0 N3 N4 => ih (k := k + 1) lv' (by omega) (by omega) (fun m hm => if e : m = k then (by rw [e]; exact ⟨g1, g2⟩) else hi m (by omega)) N0 N3 N4)
theorem sp_isSlot8 : Sp (d + 1) 127 h [.int x] (fun h' r => h' = h ∧ ((0 ≤ x.toInt ∧ x.toInt ≤ 3 ∧ r = some (.int 1)) ∨ (¬ (0 ≤ x.toInt ∧ x.toInt ≤ 3) ∧ r = some (.int 0)))) := by
  refine Sp_of aiX8_isSlot rfl rfl rfl ?_
  have L0 : pm_get (lv_args 0 [.int x]) 0 = some (.int x) := rfl
  generalize lv_args 0 [.int x] = lv at L0 ⊢
  have z0 : (0 : Int32).toInt = 0 := rfl
  refine E_il rfl L0 ?_
  by_cases b1 : x < 0
  · have q := Int32.lt_iff_toInt_lt.mp b1
    refine E_ifT rfl (decide_eq_true b1) ?_
    refine E_ci 0 rfl (by decide) ?_
    exact E_rtz rfl (.inl rfl) ⟨rfl, .inr ⟨by omega, rfl⟩⟩
  · have q : ¬ x.toInt < (0 : Int32).toInt := fun z => b1 (Int32.lt_iff_toInt_lt.mpr z)
    refine E_ifF rfl (decide_eq_false b1) ?_
    refine E_il rfl L0 ?_
    refine E_ci 4 rfl (by decide) ?_
    by_cases b2 : nJ 4 ≤ x
    · have q2 := Int32.le_iff_toInt_le.mp b2
      rw [nJ_toInt (by omega)] at q2
      refine E_icT rfl (decide_eq_true b2) ?_
      refine E_ci 0 rfl (by decide) ?_
      exact E_rtz rfl (.inl rfl) ⟨rfl, .inr ⟨by omega, rfl⟩⟩
    · have q2 : ¬ (nJ 4).toInt ≤ x.toInt := fun z => b2 (Int32.le_iff_toInt_le.mpr z)
      rw [nJ_toInt (by omega)] at q2
      refine E_icF rfl (decide_eq_false b2) ?_
      refine E_ci 1 rfl (by decide) ?_
      refine E_goto rfl ?_
      exact E_rtz rfl (.inr rfl) ⟨rfl, .inl ⟨by omega, by omega, rfl⟩⟩
theorem sp_sight (hh : HH h) : Sp 2 180 h [.ref 0, .int x, .int (nJ 1)] (SgQ h x) := by
  refine Sp_of (d := 1) aiX8_sightRefusal rfl rfl rfl ?_
  have L0 : pm_get (lv_args 0 [.ref 0, .int x, .int (nJ 1)]) 0 = some (.ref 0) := rfl
  have L1 : pm_get (lv_args 0 [.ref 0, .int x, .int (nJ 1)]) 1 = some (.int x) := rfl
  have L2 : pm_get (lv_args 0 [.ref 0, .int x, .int (nJ 1)]) 2 = some (.int (nJ 1)) := rfl
  generalize lv_args 0 [.ref 0, .int x, .int (nJ 1)] = lv at L0 L1 L2 ⊢
  have no : ∀ {lv : List (Nat × Value)}, Ends (pm_at tX8_sightRefusal) (pm_Rt pm_P 1) (11, lv, [], h, 0, 0) (SgQ h x) := by
    intro lv
    refine E_c rfl ?_
    exact E_rti rfl ⟨rfl, .inl ⟨_, rfl, by decide, by decide⟩⟩
  refine E_il rfl L1 ?_
  refine E_call rfl (sp_isSlot8 (d := 0)) (chkS rfl (by show 0 ≤ 8; decide)) (fun h1 r1 => ?_)
  rintro ⟨e1, rv⟩
  rw [e1]
  rcases rv with ⟨hx0, hx3, hr⟩ | ⟨-, hr⟩
  · rw [hr]
    refine E_ifF rfl (by decide) ?_
    refine E_il rfl L2 ?_
    refine E_ifT rfl (by decide) ?_
    obtain ⟨s, hs, rfl⟩ : ∃ s, s < 4 ∧ x = nJ s := ⟨x.toInt.toNat, by omega, nJ_of hx0⟩
    obtain ⟨S1, S2, S3, S4, S5, S6⟩ := isS_at s hs
    refine E_al rfl L0 ?_
    refine E_ogr rfl hh rfl (q := 53) rfl ?_
    refine E_il rfl L1 ?_
    refine E_aal rfl hh rfl (slot_at s hs) (by decide) ?_
    refine E_asr rfl (fun lv1 M3 kp => ?_)
    have M0 := kp 0 _ (by decide) rfl L0
    refine E_al rfl M3 ?_
    refine E_ogf rfl hh S1 S4 rfl ?_
    by_cases b1 : gi h (54 + 2 * s) 1 = 0
    · refine E_ifF rfl (decide_eq_false (fun q => q b1)) ?_
      refine E_c rfl ?_
      exact E_rti rfl ⟨rfl, .inl ⟨_, rfl, by decide, by decide⟩⟩
    · refine E_ifT rfl (decide_eq_true b1) ?_
      have f1 : gi h (54 + 2 * s) 1 = 1 := by
        have q := (ld_gi hh S4).2
        apply Int32.toInt_inj.mp
        have z1 : (1 : Int32).toInt = 1 := rfl
        have z0 : ¬ (gi h (54 + 2 * s) 1).toInt = 0 := fun z => b1 (Int32.toInt_inj.mp z)
        dsimp only at q
        omega
      refine E_al rfl M3 ?_
      refine E_ogf rfl hh S1 S6 rfl ?_
      refine E_c rfl ?_
      refine E_dv rfl (by decide) ?_
      by_cases b2 : gi h (54 + 2 * s) 3 - gi h (54 + 2 * s) 3 / 2 * 2 = 0
      · refine E_ifT rfl (decide_eq_true b2) ?_
        refine E_ci 0 rfl (by decide) ?_
        refine E_is rfl (fun lv2 N4 kp2 => ?_)
        have hn : gn h (54 + 2 * s) 3 ≤ 60 := gn_hi hh S6 (by decide)
        exact sr_loop hh hs rfl f1 60 (k := 0) lv2 (by omega) (by omega) (fun m hm => absurd hm (Nat.not_lt_zero m)) (kp2 0 _ (by decide) rfl M0) (kp2 3 _ (by decide) rfl M3) N4
      · refine E_ifF rfl (decide_eq_false b2) ?_
        refine E_c rfl ?_
        exact E_rti rfl ⟨rfl, .inl ⟨_, rfl, by decide, by decide⟩⟩
  · rw [hr]
    refine E_ifT rfl (by decide) ?_
    exact no
end SR
