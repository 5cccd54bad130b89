section
/-! by hand: sightRefusal (its summary S629 in place of the executor's check, which takes 500 s) -/
/-- a slot: its cell a, its numbers in cell c -/
noncomputable def isS (a c : Nat) : Prop := ciO a = some 4 ∧ frO a 0 = some c ∧ hs0[c]? = some (.inr (.inl 60)) ∧ bd a 1 = some (0, 1) ∧ bd a 2 = some (0, 3) ∧ bd a 3 = some (0, 60)
theorem isS_at : ∀ s, s < 4 → isS (54 + 2 * s) (55 + 2 * s)
  | 0, _ => ⟨rfl, rfl, rfl, rfl, rfl, rfl⟩
  | 1, _ => ⟨rfl, rfl, rfl, rfl, rfl, rfl⟩
  | 2, _ => ⟨rfl, rfl, rfl, rfl, rfl, rfl⟩
  | 3, _ => ⟨rfl, rfl, rfl, rfl, rfl, rfl⟩
  | s + 4, hs => absurd hs (by omega)
theorem slot_at : ∀ s, s < 4 → [some 54, some 56, some 58, some 60][s]? = some (some (54 + 2 * s))
  | 0, _ => rfl
  | 1, _ => rfl
  | 2, _ => rfl
  | 3, _ => rfl
  | s + 4, hs => absurd hs (by omega)
theorem ld_gl {h : pm_H} {a len k : Nat} (hh : HH h) (hc : hs0[a]? = some (.inr (.inl len))) : ld h a k = some (.long (gl h a k)) := by
  obtain ⟨x, hx, hg⟩ := hs_at hh hc
  match x, hx, hg with
  | .inl (t2, len2, .inr (.inl f)), hx, hg =>
    unfold gl ld
    rw [hx]
theorem E_dv {look : Nat → Option pm_I} {call : pm_Call} {Q : pm_H → Option Value → Prop} {pc n : Nat} {lv : List (Nat × Value)} {st : List Value} {w : pm_H × Nat × Nat} {op : Int32 → Int32 → Int32} {x y : Int32} (h1 : look pc = some (.inl (s_div op n))) (h0 : ¬ y = 0) (k : Ends look call (n, lv, .int (op x y) :: st, w) Q) : Ends look call (pc, lv, .int y :: .int x :: st, w) Q := E_st h1 (by simp only [s_div, if_neg h0]) k
theorem E_asr {look : Nat → Option pm_I} {call : pm_Call} {Q : pm_H → Option Value → Prop} {pc n i a : Nat} {lv : List (Nat × Value)} {st : List Value} {w : pm_H × Nat × Nat} (h1 : look pc = some (.inl (s_as i n))) (k : ∀ lv' : List (Nat × Value), pm_get lv' i = some (.ref a) → (∀ (j : Nat) (u : Value), j ≠ i → u.category = 1 → pm_get lv j = some u → pm_get lv' j = some u) → Ends look call (n, lv', st, w) Q) : Ends look call (pc, lv, .ref a :: st, w) Q :=
  E_st h1 rfl (k (pm_put1 i (.ref a) lv) gp_self (fun _ _ a b c => gp_ne a b c))
noncomputable def SgQ (h : pm_H) (x : Int32) (h' : pm_H) (r : Option Value) : Prop := h' = h ∧ ((∃ y : Int32, r = some (.int y) ∧ -6 ≤ y.toInt ∧ y.toInt ≤ -2) ∨ ∃ s, s < 4 ∧ x = nJ s ∧ r = some (.int 0) ∧ gi h (54 + 2 * s) 1 = 1 ∧ LDf (55 + 2 * s) 0 2 1 7 (54 + 2 * s) 3 h)
section SR
variable {h : pm_H} {d a c k : Nat} {x : Int32}
theorem sr_no {lv : List (Nat × Value)} : Ends (pm_at tX8_sightRefusal) (pm_Rt pm_P d) (147, lv, [], h, 0, 0) (SgQ h x) := by
  refine E_c rfl ?_
  exact E_rti rfl ⟨rfl, .inl ⟨_, rfl, by decide, by decide⟩⟩
theorem sr_c {u w : Nat} (lv : List (Nat × Value)) (hu : u ≤ 1) (hw : w ≤ 1) (hk : k ≤ 60) (L0 : pm_get lv 0 = some (.ref 0)) (L3 : pm_get lv 3 = some (.ref a)) (L4 : pm_get lv 4 = some (.int (nJ (2 * k)))) (L5 : pm_get lv 5 = some (.int (nJ w)))
    (K : w = 1 → ∀ lv : List (Nat × Value), pm_get lv 0 = some (.ref 0) → pm_get lv 3 = some (.ref a) → pm_get lv 4 = some (.int (nJ (2 * (k + 1)))) → Ends (pm_at tX8_sightRefusal) (pm_Rt pm_P d) (46, lv, [], h, 0, 0) (SgQ h x)) : Ends (pm_at tX8_sightRefusal) (pm_Rt pm_P d) (135, lv, [.int (nJ u)], h, 0, 0) (SgQ h x) := by
  refine E_is rfl (fun lv1 M6 kp => ?_)
  have M0 := kp 0 _ (by decide) rfl L0
  have M3 := kp 3 _ (by decide) rfl L3
  have M4 := kp 4 _ (by decide) rfl L4
  have M5 := kp 5 _ (by decide) rfl L5
  refine E_il rfl M5 ?_
  by_cases b5 : w = 0
  · refine E_ifT rfl (decide_eq_true ((nJ_eq0 (by omega)).mpr b5)) ?_
    exact sr_no
  · refine E_ifF rfl (decide_eq_false (fun q => b5 ((nJ_eq0 (by omega)).mp q))) ?_
    refine E_il rfl M6 ?_
    by_cases b6 : u = 0
    · refine E_ifF rfl (decide_eq_false (fun q => q ((nJ_eq0 (by omega)).mpr b6))) ?_
      exact sr_no
    · refine E_ifT rfl (decide_eq_true (fun q => b6 ((nJ_eq0 (by omega)).mp q))) ?_
      refine E_inc rfl M4 (show nJ (2 * k) + 2 = nJ (2 * (k + 1)) from nJ_add (2 * k) 2) (fun lv2 N4 kp2 => ?_)
      refine E_goto rfl ?_
      exact K (by omega) lv2 (kp2 0 _ (by decide) rfl M0) (kp2 3 _ (by decide) rfl M3) N4
theorem sr_b {w : Nat} (hh : HH h) (S : isS a c) (lv : List (Nat × Value)) (hw : w ≤ 1) (hk : 2 * k + 1 < 60) (L0 : pm_get lv 0 = some (.ref 0)) (L3 : pm_get lv 3 = some (.ref a)) (L4 : pm_get lv 4 = some (.int (nJ (2 * k))))
    (K : w = 1 → ∀ lv : List (Nat × Value), pm_get lv 0 = some (.ref 0) → pm_get lv 3 = some (.ref a) → pm_get lv 4 = some (.int (nJ (2 * (k + 1)))) → Ends (pm_at tX8_sightRefusal) (pm_Rt pm_P d) (46, lv, [], h, 0, 0) (SgQ h x)) : Ends (pm_at tX8_sightRefusal) (pm_Rt pm_P d) (93, lv, [.int (nJ w)], h, 0, 0) (SgQ h x) := by
  obtain ⟨S1, S2, S3, S4, S5, S6⟩ := S
  refine E_is rfl (fun lv1 M5 kp => ?_)
  have M0 := kp 0 _ (by decide) rfl L0
  have M3 := kp 3 _ (by decide) rfl L3
  have M4 := kp 4 _ (by decide) rfl L4
  refine E_al rfl M3 ?_
  refine E_ogr rfl hh S1 S2 ?_
  refine E_il rfl M4 ?_
  refine E_ci 1 rfl (by decide) ?_
  refine E_bin rfl (nJ_add _ _) ?_
  refine E_lal rfl hh S3 (by omega) (by decide) ?_
  refine E_c rfl ?_
  refine E_lcmp rfl ?_
  by_cases b1 : lg_cmp (gl h c (2 * k + 1)) 0 < 0
  · refine E_ifT rfl (decide_eq_true b1) ?_
    refine E_ci 0 rfl (by decide) ?_
    exact sr_c lv1 (by omega) hw (by omega) M0 M3 M4 M5 K
  · refine E_ifF rfl (decide_eq_false b1) ?_
    refine E_al rfl M3 ?_
    refine E_ogr rfl hh S1 S2 ?_
    refine E_il rfl M4 ?_
    refine E_ci 1 rfl (by decide) ?_
    refine E_bin rfl (nJ_add _ _) ?_
    refine E_lal rfl hh S3 (by omega) (by decide) ?_
    refine E_al rfl M0 ?_
    refine E_ogr rfl hh rfl (q := 15) rfl ?_
    refine E_ogf rfl hh rfl (q := (0, 8)) rfl rfl ?_
    refine E_i2l rfl ?_
    refine E_lcmp rfl ?_
    by_cases b2 : 0 < lg_cmp (gl h c (2 * k + 1)) (gi h 15 0).toInt64
    · refine E_ifT rfl (decide_eq_true b2) ?_
      refine E_ci 0 rfl (by decide) ?_
      exact sr_c lv1 (by omega) hw (by omega) M0 M3 M4 M5 K
    · refine E_ifF rfl (decide_eq_false b2) ?_
      refine E_ci 1 rfl (by decide) ?_
      refine E_goto rfl ?_
      exact sr_c lv1 (by omega) hw (by omega) M0 M3 M4 M5 K
theorem sr_loop {s : Nat} (hh : HH h) (hs : s < 4) (hx : x = nJ s) (hf : gi h (54 + 2 * s) 1 = 1) (j : Nat) : ∀ {k : Nat} (lv : List (Nat × Value)), gn h (54 + 2 * s) 3 ≤ 2 * k + j → k ≤ 30 → (∀ m, m < k → 0 ≤ (gl h (55 + 2 * s) (2 * m)).toInt ∧ (gl h (55 + 2 * s) (2 * m)).toInt ≤ 7) → pm_get lv 0 = some (.ref 0) → pm_get lv 3 = some (.ref (54 + 2 * s)) → pm_get lv 4 = some (.int (nJ (2 * k))) → Ends (pm_at tX8_sightRefusal) (pm_Rt pm_P d) (46, lv, [], h, 0, 0) (SgQ h x) := by
  obtain ⟨S1, S2, S3, S4, S5, S6⟩ := isS_at s hs
  have hn : gn h (54 + 2 * s) 3 ≤ 60 := gn_hi hh S6 (by decide)
  have yes : ∀ {k : Nat} (lv : List (Nat × Value)), gn h (54 + 2 * s) 3 ≤ 2 * k + 1 → (∀ m, m < k → 0 ≤ (gl h (55 + 2 * s) (2 * m)).toInt ∧ (gl h (55 + 2 * s) (2 * m)).toInt ≤ 7) → Ends (pm_at tX8_sightRefusal) (pm_Rt pm_P d) (156, lv, [], h, 0, 0) (SgQ h x) := by
    intro k lv hk hi
    refine E_ci 0 rfl (by decide) ?_
    refine E_rti rfl ⟨rfl, .inr ⟨s, hs, hx, rfl, hf, fun n m h1 h2 => ?_⟩⟩
    rw [(ld_gi hh S6).1] at h1
    cases h1
    have h3 : (gi h (54 + 2 * s) 3).toInt = gn h (54 + 2 * s) 3 := by rw [gi_gn hh S6 (by decide), nJ_toInt (by omega), gn_of (gi_gn hh S6 (by decide)) (by omega)]
    rw [Nat.zero_add]
    exact ⟨_, ld_gl hh S3, (hi m (by omega)).1, (hi m (by omega)).2⟩
  induction j with
  | zero =>
    intro k lv hj hk hi L0 L3 L4
    refine E_il rfl L4 ?_
    refine E_ci 1 rfl (by decide) ?_
    refine E_bin rfl (nJ_add _ _) ?_
    refine E_al rfl L3 ?_
    refine E_ogf rfl hh S1 S6 (gi_gn hh S6 (by decide)) ?_
    refine E_icT rfl (decide_eq_true ((nJ_le (by omega) (by omega)).mpr (by omega))) ?_
    exact yes lv (by omega) hi
  | succ j ih =>
    intro k lv hj hk hi L0 L3 L4
    refine E_il rfl L4 ?_
    refine E_ci 1 rfl (by decide) ?_
    refine E_bin rfl (nJ_add _ _) ?_
    refine E_al rfl L3 ?_
    refine E_ogf rfl hh S1 S6 (gi_gn hh S6 (by decide)) ?_
    by_cases b0 : gn h (54 + 2 * s) 3 ≤ 2 * k + 1
    · refine E_icT rfl (decide_eq_true ((nJ_le (by omega) (by omega)).mpr b0)) ?_
      exact yes lv b0 hi
    · refine E_icF rfl (decide_eq_false (fun q => b0 ((nJ_le (by omega) (by omega)).mp q))) ?_
      refine E_al rfl L3 ?_
      refine E_ogr rfl hh S1 S2 ?_
      refine E_il rfl L4 ?_
      refine E_lal rfl hh S3 (by omega) (by decide) ?_
      refine E_c rfl ?_
      refine E_lcmp rfl ?_
      by_cases b1 : lg_cmp (gl h (55 + 2 * s) (2 * k)) 0 < 0
      · refine E_ifT rfl (decide_eq_true b1) ?_
        refine E_ci 0 rfl (by decide) ?_
        exact sr_b hh (isS_at s hs) lv (by omega) (by omega) L0 L3 L4 (fun q => absurd q (by omega))
      · refine E_ifF rfl (decide_eq_false b1) ?_
        refine E_al rfl L3 ?_
        refine E_ogr rfl hh S1 S2 ?_
        refine E_il rfl L4 ?_
        refine E_lal rfl hh S3 (by omega) (by decide) ?_
        refine E_al rfl L0 ?_
        refine E_ogr rfl hh rfl (q := 15) rfl ?_
        have c8 : gn h 15 4 ≤ 8 := gn_hi hh rfl (by decide)
        refine E_ogf rfl hh rfl (q := (0, 8)) rfl (gi_gn hh rfl (by decide)) ?_
        refine E_i2l rfl ?_
        refine E_lcmp rfl ?_
        by_cases b2 : 0 ≤ lg_cmp (gl h (55 + 2 * s) (2 * k)) (nJ (gn h 15 4)).toInt64
        · refine E_ifT rfl (decide_eq_true b2) ?_
          refine E_ci 0 rfl (by decide) ?_
          exact sr_b hh (isS_at s hs) lv (by omega) (by omega) L0 L3 L4 (fun q => absurd q (by omega))
        · refine E_ifF rfl (decide_eq_false b2) ?_
          refine E_ci 1 rfl (by decide) ?_
          refine E_goto rfl ?_
          have g1 : 0 ≤ (gl h (55 + 2 * s) (2 * k)).toInt := by
            have q : ¬ gl h (55 + 2 * s) (2 * k) < 0 := fun z => b1 ((lg_cmp_lt _ _).mpr z)
            rw [Int64.lt_iff_toInt_lt] at q
            have z0 : (0 : Int64).toInt = 0 := rfl
            omega
          have g2 : (gl h (55 + 2 * s) (2 * k)).toInt ≤ 7 := by
            have q : ¬ (nJ (gn h 15 4)).toInt64 ≤ gl h (55 + 2 * s) (2 * k) := fun z => b2 ((lg_cmp_ge _ _).mpr z)
            rw [Int64.le_iff_toInt_le, i2l_nJ (by omega)] at q
            omega
          exact sr_b hh (isS_at s hs) lv (by omega) (by omega) L0 L3 L4 (fun _ lv' N0 N3 N4 => ih (k := k + 1) lv' (by omega) (by omega) (fun m hm => if e : m = k then (by rw [e]; exact ⟨g1, g2⟩) else hi m (by omega)) N0 N3 N4)
theorem sp_isSlot8 : Sp (d + 1) 127 h [.int x] (fun h' r => h' = h ∧ ((0 ≤ x.toInt ∧ x.toInt ≤ 3 ∧ r = some (.int 1)) ∨ (¬ (0 ≤ x.toInt ∧ x.toInt ≤ 3) ∧ r = some (.int 0)))) := by
  refine Sp_of aiX8_isSlot rfl rfl rfl ?_
  have L0 : pm_get (lv_args 0 [.int x]) 0 = some (.int x) := rfl
  generalize lv_args 0 [.int x] = lv at L0 ⊢
  have z0 : (0 : Int32).toInt = 0 := rfl
  refine E_il rfl L0 ?_
  by_cases b1 : x < 0
  · have q := Int32.lt_iff_toInt_lt.mp b1
    refine E_ifT rfl (decide_eq_true b1) ?_
    refine E_ci 0 rfl (by decide) ?_
    exact E_rtz rfl (.inl rfl) ⟨rfl, .inr ⟨by omega, rfl⟩⟩
  · have q : ¬ x.toInt < (0 : Int32).toInt := fun z => b1 (Int32.lt_iff_toInt_lt.mpr z)
    refine E_ifF rfl (decide_eq_false b1) ?_
    refine E_il rfl L0 ?_
    refine E_ci 4 rfl (by decide) ?_
    by_cases b2 : nJ 4 ≤ x
    · have q2 := Int32.le_iff_toInt_le.mp b2
      rw [nJ_toInt (by omega)] at q2
      refine E_icT rfl (decide_eq_true b2) ?_
      refine E_ci 0 rfl (by decide) ?_
      exact E_rtz rfl (.inl rfl) ⟨rfl, .inr ⟨by omega, rfl⟩⟩
    · have q2 : ¬ (nJ 4).toInt ≤ x.toInt := fun z => b2 (Int32.le_iff_toInt_le.mpr z)
      rw [nJ_toInt (by omega)] at q2
      refine E_icF rfl (decide_eq_false b2) ?_
      refine E_ci 1 rfl (by decide) ?_
      refine E_goto rfl ?_
      exact E_rtz rfl (.inr rfl) ⟨rfl, .inl ⟨by omega, by omega, rfl⟩⟩
theorem sp_sight (hh : HH h) : Sp 2 180 h [.ref 0, .int x, .int (nJ 1)] (SgQ h x) := by
  refine Sp_of (d := 1) aiX8_sightRefusal rfl rfl rfl ?_
  have L0 : pm_get (lv_args 0 [.ref 0, .int x, .int (nJ 1)]) 0 = some (.ref 0) := rfl
  have L1 : pm_get (lv_args 0 [.ref 0, .int x, .int (nJ 1)]) 1 = some (.int x) := rfl
  have L2 : pm_get (lv_args 0 [.ref 0, .int x, .int (nJ 1)]) 2 = some (.int (nJ 1)) := rfl
  generalize lv_args 0 [.ref 0, .int x, .int (nJ 1)] = lv at L0 L1 L2 ⊢
  have no : ∀ {lv : List (Nat × Value)}, Ends (pm_at tX8_sightRefusal) (pm_Rt pm_P 1) (11, lv, [], h, 0, 0) (SgQ h x) := by
    intro lv
    refine E_c rfl ?_
    exact E_rti rfl ⟨rfl, .inl ⟨_, rfl, by decide, by decide⟩⟩
  refine E_il rfl L1 ?_
  refine E_call rfl (sp_isSlot8 (d := 0)) (chkS rfl (by show 0 ≤ 8; decide)) (fun h1 r1 => ?_)
  rintro ⟨e1, rv⟩
  rw [e1]
  rcases rv with ⟨hx0, hx3, hr⟩ | ⟨-, hr⟩
  · rw [hr]
    refine E_ifF rfl (by decide) ?_
    refine E_il rfl L2 ?_
    refine E_ifT rfl (by decide) ?_
    obtain ⟨s, hs, rfl⟩ : ∃ s, s < 4 ∧ x = nJ s := ⟨x.toInt.toNat, by omega, nJ_of hx0⟩
    obtain ⟨S1, S2, S3, S4, S5, S6⟩ := isS_at s hs
    refine E_al rfl L0 ?_
    refine E_ogr rfl hh rfl (q := 53) rfl ?_
    refine E_il rfl L1 ?_
    refine E_aal rfl hh rfl (slot_at s hs) (by decide) ?_
    refine E_asr rfl (fun lv1 M3 kp => ?_)
    have M0 := kp 0 _ (by decide) rfl L0
    refine E_al rfl M3 ?_
    refine E_ogf rfl hh S1 S4 rfl ?_
    by_cases b1 : gi h (54 + 2 * s) 1 = 0
    · refine E_ifF rfl (decide_eq_false (fun q => q b1)) ?_
      refine E_c rfl ?_
      exact E_rti rfl ⟨rfl, .inl ⟨_, rfl, by decide, by decide⟩⟩
    · refine E_ifT rfl (decide_eq_true b1) ?_
      have f1 : gi h (54 + 2 * s) 1 = 1 := by
        have q := (ld_gi hh S4).2
        apply Int32.toInt_inj.mp
        have z1 : (1 : Int32).toInt = 1 := rfl
        have z0 : ¬ (gi h (54 + 2 * s) 1).toInt = 0 := fun z => b1 (Int32.toInt_inj.mp z)
        dsimp only at q
        omega
      refine E_al rfl M3 ?_
      refine E_ogf rfl hh S1 S6 rfl ?_
      refine E_c rfl ?_
      refine E_dv rfl (by decide) ?_
      by_cases b2 : gi h (54 + 2 * s) 3 - gi h (54 + 2 * s) 3 / 2 * 2 = 0
      · refine E_ifT rfl (decide_eq_true b2) ?_
        refine E_ci 0 rfl (by decide) ?_
        refine E_is rfl (fun lv2 N4 kp2 => ?_)
        have hn : gn h (54 + 2 * s) 3 ≤ 60 := gn_hi hh S6 (by decide)
        exact sr_loop hh hs rfl f1 60 (k := 0) lv2 (by omega) (by omega) (fun m hm => absurd hm (Nat.not_lt_zero m)) (kp2 0 _ (by decide) rfl M0) (kp2 3 _ (by decide) rfl M3) N4
      · refine E_ifF rfl (decide_eq_false b2) ?_
        refine E_c rfl ?_
        exact E_rti rfl ⟨rfl, .inl ⟨_, rfl, by decide, by decide⟩⟩
  · rw [hr]
    refine E_ifT rfl (by decide) ?_
    exact no
end SR
end
section
/-! the bits of small numbers: bitCount of the class, sizeOf of the reference (wants t0) -/
noncomputable def pcT (m : Nat) : Nat := (List.range 9).foldl (fun a k => bif isB m k then a + 1 else a) 0
noncomputable def bcnA (x : Int32) : Int32 := x - ((x.toUInt32 >>> (Int32.toUInt32 1 &&& Int32.toUInt32 31)).toInt32 &&& 1431655765)
noncomputable def bcnB (x : Int32) : Int32 := (x &&& 858993459) + ((x.toUInt32 >>> (Int32.toUInt32 2 &&& Int32.toUInt32 31)).toInt32 &&& 858993459)
noncomputable def bcnC (x : Int32) : Int32 := (x + (x.toUInt32 >>> (Int32.toUInt32 4 &&& Int32.toUInt32 31)).toInt32) &&& 252645135
noncomputable def bcnD (x : Int32) : Int32 := x + (x.toUInt32 >>> (Int32.toUInt32 8 &&& Int32.toUInt32 31)).toInt32
noncomputable def bcnE (x : Int32) : Int32 := (x + (x.toUInt32 >>> (Int32.toUInt32 16 &&& Int32.toUInt32 31)).toInt32) &&& 63
noncomputable def bcn (x : Int32) : Int32 := bcnE (bcnD (bcnC (bcnB (bcnA x))))
theorem bcn_tab : ∀ m : Fin 512, bcn (nJ m.val) = nJ (pcT m.val) := by decide +kernel
theorem sp_bitCount {h : pm_H} {d : Nat} {x : Int32} : Sp (d + 1) 7 h [.int x] (fun h' r => h' = h ∧ r = some (.int (bcn x))) := by
  refine Sp_of aiJ6_bitCount_0f7a4 rfl rfl rfl ?_
  have L0 : pm_get (lv_args 0 [.int x]) 0 = some (.int x) := rfl
  generalize lv_args 0 [.int x] = lv at L0 ⊢
  refine E_il rfl L0 ?_
  refine E_il rfl L0 ?_
  refine E_c rfl ?_
  refine E_bin rfl rfl ?_
  refine E_c rfl ?_
  refine E_bin rfl rfl ?_
  refine E_bin (v := bcnA x) rfl rfl ?_
  refine E_is rfl (fun lv1 K1 _ => ?_)
  refine E_il rfl K1 ?_
  refine E_c rfl ?_
  refine E_bin rfl rfl ?_
  refine E_il rfl K1 ?_
  refine E_c rfl ?_
  refine E_bin rfl rfl ?_
  refine E_c rfl ?_
  refine E_bin rfl rfl ?_
  refine E_bin (v := bcnB (bcnA x)) rfl rfl ?_
  refine E_is rfl (fun lv2 K2 _ => ?_)
  refine E_il rfl K2 ?_
  refine E_il rfl K2 ?_
  refine E_c rfl ?_
  refine E_bin rfl rfl ?_
  refine E_bin rfl rfl ?_
  refine E_c rfl ?_
  refine E_bin (v := bcnC (bcnB (bcnA x))) rfl rfl ?_
  refine E_is rfl (fun lv3 K3 _ => ?_)
  refine E_il rfl K3 ?_
  refine E_il rfl K3 ?_
  refine E_c rfl ?_
  refine E_bin rfl rfl ?_
  refine E_bin (v := bcnD (bcnC (bcnB (bcnA x)))) rfl rfl ?_
  refine E_is rfl (fun lv4 K4 _ => ?_)
  refine E_il rfl K4 ?_
  refine E_il rfl K4 ?_
  refine E_c rfl ?_
  refine E_bin rfl rfl ?_
  refine E_bin rfl rfl ?_
  refine E_is rfl (fun lv5 K5 _ => ?_)
  refine E_il rfl K5 ?_
  refine E_c rfl ?_
  refine E_bin (v := bcn x) rfl rfl ?_
  exact E_rti rfl ⟨rfl, rfl⟩
noncomputable def bcK (k : Int) (m : Nat) : Bool := (decide (2 ≤ pcT m) && decide ((pcT m : Int) ≤ k)) || (Nat.beq (pcT m) 1 || Nat.beq (pcT m) 0)
theorem pcT_le : ∀ m : Fin 512, pcT m.val ≤ 9 := by decide +kernel
theorem bc_sum {hi k : Int} (h5 : hi < 512) (hc : (List.range (hi.toNat + 1)).all (bcK k) = true) : sum_g w0 (pm_Rt pm_P 1) (7, [cI 0 hi], [], [], [], [([cI 0 hi], [], [], some (.inl (cI 2 k))), ([cI 0 hi], [], [], some (.inl (cI 1 1))), ([cI 0 hi], [], [], some (.inl (cI 0 0)))]) := by
  intro h as hh ha _ _
  match as, ha with
  | [.int x], ⟨h1, _⟩ =>
    have h1 : (0 : Int) ≤ x.toInt ∧ x.toInt ≤ hi := h1
    obtain ⟨m, hm, rfl⟩ : ∃ m, m < 512 ∧ x = nJ m := ⟨x.toInt.toNat, by omega, nJ_of h1.1⟩
    have hx := nJ_toInt (n := m) (by omega)
    obtain ⟨h', r, p1, e, rfl⟩ := sp_bitCount (h := h) (d := 0) (x := nJ m)
    subst e
    have ck := List.all_eq_true.mp hc m (List.mem_range.mpr (by omega))
    have p9 := pcT_le ⟨m, hm⟩
    dsimp only at p9
    refine ⟨h', _, p1, hh, fun _ _ _ => rfl, ?_⟩
    rw [bcn_tab ⟨m, hm⟩]
    have z := nJ_toInt (n := pcT m) (by omega)
    unfold bcK at ck
    rw [Bool.or_eq_true, Bool.and_eq_true, Bool.or_eq_true] at ck
    rcases ck with ⟨c1, c2⟩ | c | c
    · have c1 := of_decide_eq_true c1
      have c2 := of_decide_eq_true c2
      exact ⟨_, List.mem_cons_self, ⟨⟨h1.1, h1.2⟩, trivial⟩, fun _ hq => absurd hq List.not_mem_nil, fun _ hq => absurd hq List.not_mem_nil, ⟨by show (2 : Int) ≤ (nJ (pcT m)).toInt; omega, by show (nJ (pcT m)).toInt ≤ k; omega⟩⟩
    · have c := Nat.eq_of_beq_eq_true c
      exact ⟨_, List.mem_cons_of_mem _ List.mem_cons_self, ⟨⟨h1.1, h1.2⟩, trivial⟩, fun _ hq => absurd hq List.not_mem_nil, fun _ hq => absurd hq List.not_mem_nil, ⟨by show (1 : Int) ≤ (nJ (pcT m)).toInt; omega, by show (nJ (pcT m)).toInt ≤ 1; omega⟩⟩
    · have c := Nat.eq_of_beq_eq_true c
      exact ⟨_, List.mem_cons_of_mem _ (List.mem_cons_of_mem _ List.mem_cons_self), ⟨⟨h1.1, h1.2⟩, trivial⟩, fun _ hq => absurd hq List.not_mem_nil, fun _ hq => absurd hq List.not_mem_nil, ⟨by show (0 : Int) ≤ (nJ (pcT m)).toInt; omega, by show (nJ (pcT m)).toInt ≤ 0; omega⟩⟩
theorem sz_tab : ∀ m : Fin 512, m.val = 0 ∨ (m.val &&& (m.val - 1)) < m.val ∧ pcT m.val = pcT (m.val &&& (m.val - 1)) + 1 ∧ nJ m.val &&& nJ (m.val - 1) = nJ (m.val &&& (m.val - 1)) := by decide +kernel
theorem sz_loop {h : pm_H} {d : Nat} (j : Nat) : ∀ {m a : Nat} (lv : List (Nat × Value)), m < 512 → m ≤ j → pm_get lv 1 = some (.int (nJ a)) → pm_get lv 2 = some (.int (nJ m)) → Ends (pm_at tX9_sizeOf) (pm_Rt pm_P d) (4, lv, [], h, 0, 0) (fun h' r => h' = h ∧ r = some (.int (nJ (a + pcT m)))) := by
  induction j with
  | zero =>
    intro m a lv hm hj L1 L2
    have e : m = 0 := by omega
    subst e
    refine E_il rfl L2 ?_
    refine E_ifT rfl (decide_eq_true rfl) ?_
    refine E_il rfl L1 ?_
    exact E_rti rfl ⟨rfl, rfl⟩
  | succ j ih =>
    intro m a lv hm hj L1 L2
    refine E_il rfl L2 ?_
    rcases sz_tab ⟨m, hm⟩ with e | ⟨e1, e2, e3⟩
    · have e : m = 0 := e
      subst e
      refine E_ifT rfl (decide_eq_true rfl) ?_
      refine E_il rfl L1 ?_
      exact E_rti rfl ⟨rfl, rfl⟩
    · have e1 : (m &&& (m - 1)) < m := e1
      have e2 : pcT m = pcT (m &&& (m - 1)) + 1 := e2
      refine E_ifF rfl (decide_eq_false (fun q => by have := (nJ_eq0 (by omega)).mp q; omega)) ?_
      refine E_inc rfl L1 (nJ_inc _) (fun lv1 K1 kp => ?_)
      have M2 := kp 2 _ (by decide) rfl L2
      refine E_il rfl M2 ?_
      refine E_il rfl M2 ?_
      refine E_ci 1 rfl (by decide) ?_
      refine E_bin rfl (nJ_sub (by omega)) ?_
      refine E_bin rfl e3 ?_
      refine E_is rfl (fun lv2 K2 kp2 => ?_)
      refine E_goto rfl ?_
      rw [e2, show a + (pcT (m &&& (m - 1)) + 1) = a + 1 + pcT (m &&& (m - 1)) by omega]
      exact ih lv2 (by omega) (by omega) (kp2 1 _ (by decide) rfl K1) K2
theorem sp_sizeOf {h : pm_H} {d m : Nat} (hm : m < 512) : Sp (d + 1) 348 h [.int (nJ m)] (fun h' r => h' = h ∧ r = some (.int (nJ (pcT m)))) := by
  refine Sp_of aiX9_sizeOf rfl rfl rfl ?_
  have L0 : pm_get (lv_args 0 [.int (nJ m)]) 0 = some (.int (nJ m)) := rfl
  generalize lv_args 0 [.int (nJ m)] = lv at L0 ⊢
  refine E_ci 0 rfl (by decide) ?_
  refine E_is rfl (fun lv1 K1 kp => ?_)
  refine E_il rfl (kp 0 _ (by decide) rfl L0) ?_
  refine E_is rfl (fun lv2 K2 kp2 => ?_)
  refine Ends_mono ?_ (sz_loop m (a := 0) lv2 hm (Nat.le_refl m) (kp2 1 _ (by decide) rfl K1) K2)
  rintro h' r ⟨e, f⟩
  exact ⟨e, by rw [f, Nat.zero_add]⟩
noncomputable def szK (k e : Int) (m : Nat) : Bool := (decide (3 ≤ m) && (decide (2 ≤ pcT m) && decide ((pcT m : Int) ≤ k))) || ((decide (1 ≤ m) && (decide ((m : Int) ≤ e) && Nat.beq (pcT m) 1)) || (Nat.beq m 0 && Nat.beq (pcT m) 0))
theorem sz_sum {hi k e : Int} (h5 : hi < 512) (hc : (List.range (hi.toNat + 1)).all (szK k e) = true) : sum_g w0 (pm_Rt pm_P 1) (348, [cI 0 hi], [], [], [], [([cI 3 hi], [], [], some (.inl (cI 2 k))), ([cI 1 e], [], [], some (.inl (cI 1 1))), ([cI 0 0], [], [], some (.inl (cI 0 0)))]) := by
  intro h as hh ha _ _
  match as, ha with
  | [.int x], ⟨h1, _⟩ =>
    have h1 : (0 : Int) ≤ x.toInt ∧ x.toInt ≤ hi := h1
    obtain ⟨m, hm, rfl⟩ : ∃ m, m < 512 ∧ x = nJ m := ⟨x.toInt.toNat, by omega, nJ_of h1.1⟩
    have hx := nJ_toInt (n := m) (by omega)
    obtain ⟨h', r, p1, e, rfl⟩ := sp_sizeOf (h := h) (d := 0) hm
    subst e
    have ck := List.all_eq_true.mp hc m (List.mem_range.mpr (by omega))
    have p9 := pcT_le ⟨m, hm⟩
    dsimp only at p9
    refine ⟨h', _, p1, hh, fun _ _ _ => rfl, ?_⟩
    have z := nJ_toInt (n := pcT m) (by omega)
    unfold szK at ck
    rw [Bool.or_eq_true, Bool.or_eq_true, Bool.and_eq_true, Bool.and_eq_true, Bool.and_eq_true, Bool.and_eq_true, Bool.and_eq_true] at ck
    rcases ck with ⟨c0, c1, c2⟩ | ⟨c0, c1, c2⟩ | ⟨c0, c⟩
    · have c0 := of_decide_eq_true c0
      have c1 := of_decide_eq_true c1
      have c2 := of_decide_eq_true c2
      exact ⟨_, List.mem_cons_self, ⟨⟨by show (3 : Int) ≤ (nJ m).toInt; omega, h1.2⟩, trivial⟩, fun _ hq => absurd hq List.not_mem_nil, fun _ hq => absurd hq List.not_mem_nil, ⟨by show (2 : Int) ≤ (nJ (pcT m)).toInt; omega, by show (nJ (pcT m)).toInt ≤ k; omega⟩⟩
    · have c0 := of_decide_eq_true c0
      have c1 := of_decide_eq_true c1
      have c := Nat.eq_of_beq_eq_true c2
      exact ⟨_, List.mem_cons_of_mem _ List.mem_cons_self, ⟨⟨by show (1 : Int) ≤ (nJ m).toInt; omega, by show (nJ m).toInt ≤ _; omega⟩, trivial⟩, fun _ hq => absurd hq List.not_mem_nil, fun _ hq => absurd hq List.not_mem_nil, ⟨by show (1 : Int) ≤ (nJ (pcT m)).toInt; omega, by show (nJ (pcT m)).toInt ≤ 1; omega⟩⟩
    · have c0 := Nat.eq_of_beq_eq_true c0
      have c := Nat.eq_of_beq_eq_true c
      exact ⟨_, List.mem_cons_of_mem _ (List.mem_cons_of_mem _ List.mem_cons_self), ⟨⟨h1.1, by show (nJ m).toInt ≤ 0; omega⟩, trivial⟩, fun _ hq => absurd hq List.not_mem_nil, fun _ hq => absurd hq List.not_mem_nil, ⟨by show (0 : Int) ≤ (nJ (pcT m)).toInt; omega, by show (nJ (pcT m)).toInt ≤ 0; omega⟩⟩
end
section
/-! the class takes a street over, exactly (written by gen_t52.py) -/
theorem tk1_15_4 {h0 : pm_H} {d : Nat} {Q : pm_H → Option Value → Prop} (hh0 : HH h0) (K : ∀ (h : pm_H) (lv : List (Nat × Value)), HH h → fr_g [(16, 0, 7), (17, 0, 7), (18, 0, 7), (19, 0, 7), (20, 0, 7)] h0 h → (∀ k, k < 8 → gi h 16 k = gi h0 5 k ∧ gi h 17 k = gi h0 6 k ∧ gi h 18 k = gi h0 7 k ∧ gi h 19 k = gi h0 8 k ∧ gi h 20 k = gi h0 9 k) → pm_get lv 0 = some (.ref 15) → pm_get lv 1 = some (.ref 4) → Ends (pm_at tX5_take) (pm_Rt pm_P d) (130, lv, [], h, 0, 0) Q) (j : Nat) : ∀ {h : pm_H} {i : Nat} (lv : List (Nat × Value)), i + j = 8 → HH h → fr_g [(16, 0, 7), (17, 0, 7), (18, 0, 7), (19, 0, 7), (20, 0, 7)] h0 h → (∀ k, k < i → gi h 16 k = gi h0 5 k ∧ gi h 17 k = gi h0 6 k ∧ gi h 18 k = gi h0 7 k ∧ gi h 19 k = gi h0 8 k ∧ gi h 20 k = gi h0 9 k) → pm_get lv 0 = some (.ref 15) → pm_get lv 1 = some (.ref 4) → pm_get lv 2 = some (.int (nJ i)) → Ends (pm_at tX5_take) (pm_Rt pm_P d) (58, lv, [], h, 0, 0) Q := by
  induction j with
  | zero =>
    intro h i lv hj hh hf hc L0 L1 L2
    refine E_il rfl L2 ?_
    refine E_ci 8 rfl (by decide) ?_
    refine E_icT rfl (decide_eq_true ((nJ_le (by omega) (by omega)).mpr (by omega))) ?_
    exact K h lv hh hf (fun k hk => hc k (by omega)) L0 L1
  | succ j ih =>
    intro h i lv hj hh hf hc L0 L1 L2
    refine E_il rfl L2 ?_
    refine E_ci 8 rfl (by decide) ?_
    refine E_icF rfl (decide_eq_false (fun q => absurd ((nJ_le (by omega) (by omega)).mp q) (by omega))) ?_
    refine E_al rfl L0 ?_
    refine E_ogr (q := 16) rfl hh rfl rfl ?_
    refine E_il rfl L2 ?_
    refine E_al rfl L1 ?_
    refine E_ogr (q := 5) rfl hh rfl rfl ?_
    refine E_il rfl L2 ?_
    refine E_ial (v := gi h0 5 i) rfl hh rfl (by omega) (by decide) (by rw [fr_gi hf (rg_no rfl _)]) ?_
    have b1 := (ld_gi hh0 (a := 5) (k := i) (q := (0, 8)) (bd_u rfl (by omega))).2
    refine E_ias rfl hh rfl (by omega) (by decide) ?_
    have k1 : HH (pt h 16 i (gi h0 5 i)) := HH_pt (q := (0, 8)) hh (bd_u rfl (by omega)) b1.1 b1.2
    refine E_al rfl L0 ?_
    refine E_ogr (q := 17) rfl k1 rfl rfl ?_
    refine E_il rfl L2 ?_
    refine E_al rfl L1 ?_
    refine E_ogr (q := 6) rfl k1 rfl rfl ?_
    refine E_il rfl L2 ?_
    refine E_ial (v := gi h0 6 i) rfl k1 rfl (by omega) (by decide) (by rw [gi_ne (by omega), fr_gi hf (rg_no rfl _)]) ?_
    have b2 := (ld_gi hh0 (a := 6) (k := i) (q := (0, 8)) (bd_u rfl (by omega))).2
    refine E_ias rfl k1 rfl (by omega) (by decide) ?_
    have k2 : HH (pt (pt h 16 i (gi h0 5 i)) 17 i (gi h0 6 i)) := HH_pt (q := (0, 8)) k1 (bd_u rfl (by omega)) b2.1 b2.2
    refine E_al rfl L0 ?_
    refine E_ogr (q := 18) rfl k2 rfl rfl ?_
    refine E_il rfl L2 ?_
    refine E_al rfl L1 ?_
    refine E_ogr (q := 7) rfl k2 rfl rfl ?_
    refine E_il rfl L2 ?_
    refine E_ial (v := gi h0 7 i) rfl k2 rfl (by omega) (by decide) (by rw [gi_ne (by omega), gi_ne (by omega), fr_gi hf (rg_no rfl _)]) ?_
    have b3 := (ld_gi hh0 (a := 7) (k := i) (q := (0, 99)) (bd_u rfl (by omega))).2
    refine E_ias rfl k2 rfl (by omega) (by decide) ?_
    have k3 : HH (pt (pt (pt h 16 i (gi h0 5 i)) 17 i (gi h0 6 i)) 18 i (gi h0 7 i)) := HH_pt (q := (0, 99)) k2 (bd_u rfl (by omega)) b3.1 b3.2
    refine E_al rfl L0 ?_
    refine E_ogr (q := 19) rfl k3 rfl rfl ?_
    refine E_il rfl L2 ?_
    refine E_al rfl L1 ?_
    refine E_ogr (q := 8) rfl k3 rfl rfl ?_
    refine E_il rfl L2 ?_
    refine E_ial (v := gi h0 8 i) rfl k3 rfl (by omega) (by decide) (by rw [gi_ne (by omega), gi_ne (by omega), gi_ne (by omega), fr_gi hf (rg_no rfl _)]) ?_
    have b4 := (ld_gi hh0 (a := 8) (k := i) (q := (0, 9)) (bd_u rfl (by omega))).2
    refine E_ias rfl k3 rfl (by omega) (by decide) ?_
    have k4 : HH (pt (pt (pt (pt h 16 i (gi h0 5 i)) 17 i (gi h0 6 i)) 18 i (gi h0 7 i)) 19 i (gi h0 8 i)) := HH_pt (q := (0, 9)) k3 (bd_u rfl (by omega)) b4.1 b4.2
    refine E_al rfl L0 ?_
    refine E_ogr (q := 20) rfl k4 rfl rfl ?_
    refine E_il rfl L2 ?_
    refine E_al rfl L1 ?_
    refine E_ogr (q := 9) rfl k4 rfl rfl ?_
    refine E_il rfl L2 ?_
    refine E_ial (v := gi h0 9 i) rfl k4 rfl (by omega) (by decide) (by rw [gi_ne (by omega), gi_ne (by omega), gi_ne (by omega), gi_ne (by omega), fr_gi hf (rg_no rfl _)]) ?_
    have b5 := (ld_gi hh0 (a := 9) (k := i) (q := (0, 9)) (bd_u rfl (by omega))).2
    refine E_ias rfl k4 rfl (by omega) (by decide) ?_
    have k5 : HH (pt (pt (pt (pt (pt h 16 i (gi h0 5 i)) 17 i (gi h0 6 i)) 18 i (gi h0 7 i)) 19 i (gi h0 8 i)) 20 i (gi h0 9 i)) := HH_pt (q := (0, 9)) k4 (bd_u rfl (by omega)) b5.1 b5.2
    refine E_inc rfl L2 (nJ_inc _) (fun lv1 K2 kp => ?_)
    refine E_goto rfl ?_
    refine ih lv1 (i := i + 1) (by omega) k5 ?_ (fun k hk => ?_) (kp 0 _ (by decide) rfl L0) (kp 1 _ (by decide) rfl L1) K2
    · exact fr_ptr (l := 0) (u := 7) rfl (by omega) (by omega) (fr_ptr (l := 0) (u := 7) rfl (by omega) (by omega) (fr_ptr (l := 0) (u := 7) rfl (by omega) (by omega) (fr_ptr (l := 0) (u := 7) rfl (by omega) (by omega) (fr_ptr (l := 0) (u := 7) rfl (by omega) (by omega) (hf)))))
    · by_cases e : k = i
      · subst e
        refine ⟨?_, ?_, ?_, ?_, ?_⟩
        · rw [gi_ne (by omega), gi_ne (by omega), gi_ne (by omega), gi_ne (by omega)]; exact gi_pt (q := (0, 8)) hh (bd_u rfl (by omega)) b1.1 b1.2
        · rw [gi_ne (by omega), gi_ne (by omega), gi_ne (by omega)]; exact gi_pt (q := (0, 8)) k1 (bd_u rfl (by omega)) b2.1 b2.2
        · rw [gi_ne (by omega), gi_ne (by omega)]; exact gi_pt (q := (0, 99)) k2 (bd_u rfl (by omega)) b3.1 b3.2
        · rw [gi_ne (by omega)]; exact gi_pt (q := (0, 9)) k3 (bd_u rfl (by omega)) b4.1 b4.2
        · exact gi_pt (q := (0, 9)) k4 (bd_u rfl (by omega)) b5.1 b5.2
      · have q := hc k (by omega)
        refine ⟨?_, ?_, ?_, ?_, ?_⟩
        · rw [gi_ne (by omega), gi_ne (by omega), gi_ne (by omega), gi_ne (by omega), gi_ne (fun _ => e)]; exact q.1
        · rw [gi_ne (by omega), gi_ne (by omega), gi_ne (by omega), gi_ne (fun _ => e), gi_ne (by omega)]; exact q.2.1
        · rw [gi_ne (by omega), gi_ne (by omega), gi_ne (fun _ => e), gi_ne (by omega), gi_ne (by omega)]; exact q.2.2.1
        · rw [gi_ne (by omega), gi_ne (fun _ => e), gi_ne (by omega), gi_ne (by omega), gi_ne (by omega)]; exact q.2.2.2.1
        · rw [gi_ne (fun _ => e), gi_ne (by omega), gi_ne (by omega), gi_ne (by omega), gi_ne (by omega)]; exact q.2.2.2.2
theorem tk2_15_4 {h0 : pm_H} {d : Nat} {Q : pm_H → Option Value → Prop} (hh0 : HH h0) (K : ∀ (h : pm_H) (lv : List (Nat × Value)), HH h → fr_g [(21, 0, 19), (22, 0, 19), (23, 0, 19)] h0 h → (∀ k, k < 20 → gi h 21 k = gi h0 10 k ∧ gi h 22 k = gi h0 11 k ∧ gi h 23 k = gi h0 12 k) → pm_get lv 0 = some (.ref 15) → pm_get lv 1 = some (.ref 4) → Ends (pm_at tX5_take) (pm_Rt pm_P d) (180, lv, [], h, 0, 0) Q) (j : Nat) : ∀ {h : pm_H} {i : Nat} (lv : List (Nat × Value)), i + j = 20 → HH h → fr_g [(21, 0, 19), (22, 0, 19), (23, 0, 19)] h0 h → (∀ k, k < i → gi h 21 k = gi h0 10 k ∧ gi h 22 k = gi h0 11 k ∧ gi h 23 k = gi h0 12 k) → pm_get lv 0 = some (.ref 15) → pm_get lv 1 = some (.ref 4) → pm_get lv 2 = some (.int (nJ i)) → Ends (pm_at tX5_take) (pm_Rt pm_P d) (132, lv, [], h, 0, 0) Q := by
  induction j with
  | zero =>
    intro h i lv hj hh hf hc L0 L1 L2
    refine E_il rfl L2 ?_
    refine E_ci 20 rfl (by decide) ?_
    refine E_icT rfl (decide_eq_true ((nJ_le (by omega) (by omega)).mpr (by omega))) ?_
    exact K h lv hh hf (fun k hk => hc k (by omega)) L0 L1
  | succ j ih =>
    intro h i lv hj hh hf hc L0 L1 L2
    refine E_il rfl L2 ?_
    refine E_ci 20 rfl (by decide) ?_
    refine E_icF rfl (decide_eq_false (fun q => absurd ((nJ_le (by omega) (by omega)).mp q) (by omega))) ?_
    refine E_al rfl L0 ?_
    refine E_ogr (q := 21) rfl hh rfl rfl ?_
    refine E_il rfl L2 ?_
    refine E_al rfl L1 ?_
    refine E_ogr (q := 10) rfl hh rfl rfl ?_
    refine E_il rfl L2 ?_
    refine E_ial (v := gi h0 10 i) rfl hh rfl (by omega) (by decide) (by rw [fr_gi hf (rg_no rfl _)]) ?_
    have b6 := (ld_gi hh0 (a := 10) (k := i) (q := (0, 7)) (bd_u rfl (by omega))).2
    refine E_ias rfl hh rfl (by omega) (by decide) ?_
    have k6 : HH (pt h 21 i (gi h0 10 i)) := HH_pt (q := (0, 7)) hh (bd_u rfl (by omega)) b6.1 b6.2
    refine E_al rfl L0 ?_
    refine E_ogr (q := 22) rfl k6 rfl rfl ?_
    refine E_il rfl L2 ?_
    refine E_al rfl L1 ?_
    refine E_ogr (q := 11) rfl k6 rfl rfl ?_
    refine E_il rfl L2 ?_
    refine E_ial (v := gi h0 11 i) rfl k6 rfl (by omega) (by decide) (by rw [gi_ne (by omega), fr_gi hf (rg_no rfl _)]) ?_
    have b7 := (ld_gi hh0 (a := 11) (k := i) (q := (0, 8)) (bd_u rfl (by omega))).2
    refine E_ias rfl k6 rfl (by omega) (by decide) ?_
    have k7 : HH (pt (pt h 21 i (gi h0 10 i)) 22 i (gi h0 11 i)) := HH_pt (q := (0, 8)) k6 (bd_u rfl (by omega)) b7.1 b7.2
    refine E_al rfl L0 ?_
    refine E_ogr (q := 23) rfl k7 rfl rfl ?_
    refine E_il rfl L2 ?_
    refine E_al rfl L1 ?_
    refine E_ogr (q := 12) rfl k7 rfl rfl ?_
    refine E_il rfl L2 ?_
    refine E_zalB (v := gi h0 12 i) rfl k7 rfl (by omega) (by decide) (by rw [gi_ne (by omega), gi_ne (by omega), fr_gi hf (rg_no rfl _)]) ?_
    have b8 := (ld_gi hh0 (a := 12) (k := i) (q := (0, 1)) (bd_u rfl (by omega))).2
    refine E_zasB rfl k7 rfl (by omega) (by decide) (nar_z b8.1 b8.2) ?_
    have k8 : HH (pt (pt (pt h 21 i (gi h0 10 i)) 22 i (gi h0 11 i)) 23 i (gi h0 12 i)) := HH_pt (q := (0, 1)) k7 (bd_u rfl (by omega)) b8.1 b8.2
    refine E_inc rfl L2 (nJ_inc _) (fun lv1 K2 kp => ?_)
    refine E_goto rfl ?_
    refine ih lv1 (i := i + 1) (by omega) k8 ?_ (fun k hk => ?_) (kp 0 _ (by decide) rfl L0) (kp 1 _ (by decide) rfl L1) K2
    · exact fr_ptr (l := 0) (u := 19) rfl (by omega) (by omega) (fr_ptr (l := 0) (u := 19) rfl (by omega) (by omega) (fr_ptr (l := 0) (u := 19) rfl (by omega) (by omega) (hf)))
    · by_cases e : k = i
      · subst e
        refine ⟨?_, ?_, ?_⟩
        · rw [gi_ne (by omega), gi_ne (by omega)]; exact gi_pt (q := (0, 7)) hh (bd_u rfl (by omega)) b6.1 b6.2
        · rw [gi_ne (by omega)]; exact gi_pt (q := (0, 8)) k6 (bd_u rfl (by omega)) b7.1 b7.2
        · exact gi_pt (q := (0, 1)) k7 (bd_u rfl (by omega)) b8.1 b8.2
      · have q := hc k (by omega)
        refine ⟨?_, ?_, ?_⟩
        · rw [gi_ne (by omega), gi_ne (by omega), gi_ne (fun _ => e)]; exact q.1
        · rw [gi_ne (by omega), gi_ne (fun _ => e), gi_ne (by omega)]; exact q.2.1
        · rw [gi_ne (fun _ => e), gi_ne (by omega), gi_ne (by omega)]; exact q.2.2
noncomputable def TkF_15_4 : List Rng := [(15, 0, 6), (16, 0, 7), (17, 0, 7), (18, 0, 7), (19, 0, 7), (20, 0, 7), (21, 0, 19), (22, 0, 19), (23, 0, 19)]
noncomputable def TkQ_15_4 (h h' : pm_H) (r : Option Value) : Prop := r = none ∧ HH h' ∧ fr_g TkF_15_4 h h' ∧ (∀ k, k < 7 → gi h' 15 k = gi h 4 k) ∧ (∀ k, k < 8 → gi h' 16 k = gi h 5 k ∧ gi h' 17 k = gi h 6 k ∧ gi h' 18 k = gi h 7 k ∧ gi h' 19 k = gi h 8 k ∧ gi h' 20 k = gi h 9 k) ∧ ∀ k, k < 20 → gi h' 21 k = gi h 10 k ∧ gi h' 22 k = gi h 11 k ∧ gi h' 23 k = gi h 12 k
theorem sp_take_15_4 {h : pm_H} {d : Nat} (hh : HH h) : Sp (d + 1) 54 h [.ref 15, .ref 4] (TkQ_15_4 h) := by
  refine Sp_of aiX5_take rfl rfl rfl ?_
  have L0 : pm_get (lv_args 0 [.ref 15, .ref 4]) 0 = some (.ref 15) := rfl
  have L1 : pm_get (lv_args 0 [.ref 15, .ref 4]) 1 = some (.ref 4) := rfl
  generalize lv_args 0 [.ref 15, .ref 4] = lv at L0 L1 ⊢
  have st : ∀ {k : Nat} {q : Int × Int} {g : pm_H}, k < 7 → bd 15 k = some q → bd 4 k = some q → HH g → fr_g [(15, 0, 6)] h g → (∀ i, i < k → gi g 15 i = gi h 4 i) → HH (pt g 15 k (gi h 4 k)) ∧ fr_g [(15, 0, 6)] h (pt g 15 k (gi h 4 k)) ∧ ∀ i, i < k + 1 → gi (pt g 15 k (gi h 4 k)) 15 i = gi h 4 i := by
    intro k q g hk hb hb2 hg hf ha
    have b := (ld_gi hh hb2).2
    refine ⟨HH_pt hg hb b.1 b.2, fr_ptr (l := 0) (u := 6) rfl (by omega) (by omega) hf, fun i hi => ?_⟩
    by_cases e : i = k
    · rw [e]; exact gi_pt hg hb b.1 b.2
    · rw [gi_ne (fun _ => e)]; exact ha i (by omega)
  refine E_al rfl L0 ?_
  refine E_al rfl L1 ?_
  refine E_ogf (q := (0, 8)) (v := gi h 4 0) rfl hh rfl rfl rfl ?_
  refine E_opf (q := (0, 8)) rfl hh rfl rfl ?_
  obtain ⟨a0, b0, c0⟩ := st (k := 0) (q := (0, 8)) (by decide) rfl rfl hh (fr_rf _ _) (fun i hi => absurd hi (Nat.not_lt_zero i))
  refine E_al rfl L0 ?_
  refine E_al rfl L1 ?_
  refine E_ogf (q := (0, 3)) (v := gi h 4 1) rfl a0 rfl rfl (fr_gi b0 (rg_no rfl _)) ?_
  refine E_opf (q := (0, 3)) rfl a0 rfl rfl ?_
  obtain ⟨a1, b1, c1⟩ := st (k := 1) (q := (0, 3)) (by decide) rfl rfl a0 b0 c0
  refine E_al rfl L0 ?_
  refine E_al rfl L1 ?_
  refine E_ogf (q := (0, 10)) (v := gi h 4 2) rfl a1 rfl rfl (fr_gi b1 (rg_no rfl _)) ?_
  refine E_opf (q := (0, 10)) rfl a1 rfl rfl ?_
  obtain ⟨a2, b2, c2⟩ := st (k := 2) (q := (0, 10)) (by decide) rfl rfl a1 b1 c1
  refine E_al rfl L0 ?_
  refine E_al rfl L1 ?_
  refine E_ogf (q := ((-2147483648), 2147483647)) (v := gi h 4 3) rfl a2 rfl rfl (fr_gi b2 (rg_no rfl _)) ?_
  refine E_opf (q := ((-2147483648), 2147483647)) rfl a2 rfl rfl ?_
  obtain ⟨a3, b3, c3⟩ := st (k := 3) (q := ((-2147483648), 2147483647)) (by decide) rfl rfl a2 b2 c2
  refine E_al rfl L0 ?_
  refine E_al rfl L1 ?_
  refine E_ogf (q := (0, 8)) (v := gi h 4 4) rfl a3 rfl rfl (fr_gi b3 (rg_no rfl _)) ?_
  refine E_opf (q := (0, 8)) rfl a3 rfl rfl ?_
  obtain ⟨a4, b4, c4⟩ := st (k := 4) (q := (0, 8)) (by decide) rfl rfl a3 b3 c3
  refine E_al rfl L0 ?_
  refine E_al rfl L1 ?_
  refine E_ogf (q := (0, 8)) (v := gi h 4 5) rfl a4 rfl rfl (fr_gi b4 (rg_no rfl _)) ?_
  refine E_opf (q := (0, 8)) rfl a4 rfl rfl ?_
  obtain ⟨a5, b5, c5⟩ := st (k := 5) (q := (0, 8)) (by decide) rfl rfl a4 b4 c4
  refine E_al rfl L0 ?_
  refine E_al rfl L1 ?_
  refine E_ogf (q := (0, 20)) (v := gi h 4 6) rfl a5 rfl rfl (fr_gi b5 (rg_no rfl _)) ?_
  refine E_opf (q := (0, 20)) rfl a5 rfl rfl ?_
  obtain ⟨a6, b6, c6⟩ := st (k := 6) (q := (0, 20)) (by decide) rfl rfl a5 b5 c5
  generalize (pt (pt (pt (pt (pt (pt (pt h 15 0 (gi h 4 0)) 15 1 (gi h 4 1)) 15 2 (gi h 4 2)) 15 3 (gi h 4 3)) 15 4 (gi h 4 4)) 15 5 (gi h 4 5)) 15 6 (gi h 4 6)) = h6 at a6 b6 c6 ⊢
  refine E_ci 0 rfl (by decide) ?_
  refine E_is rfl (fun lv1 K2 kp => ?_)
  refine tk1_15_4 a6 (fun h7 lv2 hh7 f7 c7 M0 M1 => ?_) 8 (i := 0) lv1 (by omega) a6 (fr_rf _ _) (fun k hk => absurd hk (Nat.not_lt_zero k)) (kp 0 _ (by decide) rfl L0) (kp 1 _ (by decide) rfl L1) K2
  refine E_ci 0 rfl (by decide) ?_
  refine E_is rfl (fun lv3 K3 kp3 => ?_)
  refine tk2_15_4 hh7 (fun h8 lv4 hh8 f8 c8 N0 N1 => ?_) 20 (i := 0) lv3 (by omega) hh7 (fr_rf _ _) (fun k hk => absurd hk (Nat.not_lt_zero k)) (kp3 0 _ (by decide) rfl M0) (kp3 1 _ (by decide) rfl M1) K3
  refine E_ret rfl ⟨rfl, hh8, fr_trans (fr_wk rfl b6) (fr_trans (fr_wk rfl f7) (fr_wk rfl f8)), fun k hk => ?_, fun k hk => ?_, fun k hk => ?_⟩
  · rw [fr_gi f8 (rg_no rfl _), fr_gi f7 (rg_no rfl _)]; exact c6 k hk
  · obtain ⟨q1, q2, q3, q4, q5⟩ := c7 k hk
    refine ⟨?_, ?_, ?_, ?_, ?_⟩
    · rw [fr_gi f8 (rg_no rfl _), q1, fr_gi b6 (rg_no rfl _)]
    · rw [fr_gi f8 (rg_no rfl _), q2, fr_gi b6 (rg_no rfl _)]
    · rw [fr_gi f8 (rg_no rfl _), q3, fr_gi b6 (rg_no rfl _)]
    · rw [fr_gi f8 (rg_no rfl _), q4, fr_gi b6 (rg_no rfl _)]
    · rw [fr_gi f8 (rg_no rfl _), q5, fr_gi b6 (rg_no rfl _)]
  · obtain ⟨q6, q7, q8⟩ := c8 k hk
    refine ⟨?_, ?_, ?_⟩
    · rw [q6, fr_gi f7 (rg_no rfl _), fr_gi b6 (rg_no rfl _)]
    · rw [q7, fr_gi f7 (rg_no rfl _), fr_gi b6 (rg_no rfl _)]
    · rw [q8, fr_gi f7 (rg_no rfl _), fr_gi b6 (rg_no rfl _)]
/-! the class takes a street over, exactly (written by gen_t52.py) -/
theorem tk1_25_15 {h0 : pm_H} {d : Nat} {Q : pm_H → Option Value → Prop} (hh0 : HH h0) (K : ∀ (h : pm_H) (lv : List (Nat × Value)), HH h → fr_g [(26, 0, 7), (27, 0, 7), (28, 0, 7), (29, 0, 7), (30, 0, 7)] h0 h → (∀ k, k < 8 → gi h 26 k = gi h0 16 k ∧ gi h 27 k = gi h0 17 k ∧ gi h 28 k = gi h0 18 k ∧ gi h 29 k = gi h0 19 k ∧ gi h 30 k = gi h0 20 k) → pm_get lv 0 = some (.ref 25) → pm_get lv 1 = some (.ref 15) → Ends (pm_at tX5_take) (pm_Rt pm_P d) (130, lv, [], h, 0, 0) Q) (j : Nat) : ∀ {h : pm_H} {i : Nat} (lv : List (Nat × Value)), i + j = 8 → HH h → fr_g [(26, 0, 7), (27, 0, 7), (28, 0, 7), (29, 0, 7), (30, 0, 7)] h0 h → (∀ k, k < i → gi h 26 k = gi h0 16 k ∧ gi h 27 k = gi h0 17 k ∧ gi h 28 k = gi h0 18 k ∧ gi h 29 k = gi h0 19 k ∧ gi h 30 k = gi h0 20 k) → pm_get lv 0 = some (.ref 25) → pm_get lv 1 = some (.ref 15) → pm_get lv 2 = some (.int (nJ i)) → Ends (pm_at tX5_take) (pm_Rt pm_P d) (58, lv, [], h, 0, 0) Q := by
  induction j with
  | zero =>
    intro h i lv hj hh hf hc L0 L1 L2
    refine E_il rfl L2 ?_
    refine E_ci 8 rfl (by decide) ?_
    refine E_icT rfl (decide_eq_true ((nJ_le (by omega) (by omega)).mpr (by omega))) ?_
    exact K h lv hh hf (fun k hk => hc k (by omega)) L0 L1
  | succ j ih =>
    intro h i lv hj hh hf hc L0 L1 L2
    refine E_il rfl L2 ?_
    refine E_ci 8 rfl (by decide) ?_
    refine E_icF rfl (decide_eq_false (fun q => absurd ((nJ_le (by omega) (by omega)).mp q) (by omega))) ?_
    refine E_al rfl L0 ?_
    refine E_ogr (q := 26) rfl hh rfl rfl ?_
    refine E_il rfl L2 ?_
    refine E_al rfl L1 ?_
    refine E_ogr (q := 16) rfl hh rfl rfl ?_
    refine E_il rfl L2 ?_
    refine E_ial (v := gi h0 16 i) rfl hh rfl (by omega) (by decide) (by rw [fr_gi hf (rg_no rfl _)]) ?_
    have b1 := (ld_gi hh0 (a := 16) (k := i) (q := (0, 8)) (bd_u rfl (by omega))).2
    refine E_ias rfl hh rfl (by omega) (by decide) ?_
    have k1 : HH (pt h 26 i (gi h0 16 i)) := HH_pt (q := (0, 8)) hh (bd_u rfl (by omega)) b1.1 b1.2
    refine E_al rfl L0 ?_
    refine E_ogr (q := 27) rfl k1 rfl rfl ?_
    refine E_il rfl L2 ?_
    refine E_al rfl L1 ?_
    refine E_ogr (q := 17) rfl k1 rfl rfl ?_
    refine E_il rfl L2 ?_
    refine E_ial (v := gi h0 17 i) rfl k1 rfl (by omega) (by decide) (by rw [gi_ne (by omega), fr_gi hf (rg_no rfl _)]) ?_
    have b2 := (ld_gi hh0 (a := 17) (k := i) (q := (0, 8)) (bd_u rfl (by omega))).2
    refine E_ias rfl k1 rfl (by omega) (by decide) ?_
    have k2 : HH (pt (pt h 26 i (gi h0 16 i)) 27 i (gi h0 17 i)) := HH_pt (q := (0, 8)) k1 (bd_u rfl (by omega)) b2.1 b2.2
    refine E_al rfl L0 ?_
    refine E_ogr (q := 28) rfl k2 rfl rfl ?_
    refine E_il rfl L2 ?_
    refine E_al rfl L1 ?_
    refine E_ogr (q := 18) rfl k2 rfl rfl ?_
    refine E_il rfl L2 ?_
    refine E_ial (v := gi h0 18 i) rfl k2 rfl (by omega) (by decide) (by rw [gi_ne (by omega), gi_ne (by omega), fr_gi hf (rg_no rfl _)]) ?_
    have b3 := (ld_gi hh0 (a := 18) (k := i) (q := (0, 99)) (bd_u rfl (by omega))).2
    refine E_ias rfl k2 rfl (by omega) (by decide) ?_
    have k3 : HH (pt (pt (pt h 26 i (gi h0 16 i)) 27 i (gi h0 17 i)) 28 i (gi h0 18 i)) := HH_pt (q := (0, 99)) k2 (bd_u rfl (by omega)) b3.1 b3.2
    refine E_al rfl L0 ?_
    refine E_ogr (q := 29) rfl k3 rfl rfl ?_
    refine E_il rfl L2 ?_
    refine E_al rfl L1 ?_
    refine E_ogr (q := 19) rfl k3 rfl rfl ?_
    refine E_il rfl L2 ?_
    refine E_ial (v := gi h0 19 i) rfl k3 rfl (by omega) (by decide) (by rw [gi_ne (by omega), gi_ne (by omega), gi_ne (by omega), fr_gi hf (rg_no rfl _)]) ?_
    have b4 := (ld_gi hh0 (a := 19) (k := i) (q := (0, 9)) (bd_u rfl (by omega))).2
    refine E_ias rfl k3 rfl (by omega) (by decide) ?_
    have k4 : HH (pt (pt (pt (pt h 26 i (gi h0 16 i)) 27 i (gi h0 17 i)) 28 i (gi h0 18 i)) 29 i (gi h0 19 i)) := HH_pt (q := (0, 9)) k3 (bd_u rfl (by omega)) b4.1 b4.2
    refine E_al rfl L0 ?_
    refine E_ogr (q := 30) rfl k4 rfl rfl ?_
    refine E_il rfl L2 ?_
    refine E_al rfl L1 ?_
    refine E_ogr (q := 20) rfl k4 rfl rfl ?_
    refine E_il rfl L2 ?_
    refine E_ial (v := gi h0 20 i) rfl k4 rfl (by omega) (by decide) (by rw [gi_ne (by omega), gi_ne (by omega), gi_ne (by omega), gi_ne (by omega), fr_gi hf (rg_no rfl _)]) ?_
    have b5 := (ld_gi hh0 (a := 20) (k := i) (q := (0, 9)) (bd_u rfl (by omega))).2
    refine E_ias rfl k4 rfl (by omega) (by decide) ?_
    have k5 : HH (pt (pt (pt (pt (pt h 26 i (gi h0 16 i)) 27 i (gi h0 17 i)) 28 i (gi h0 18 i)) 29 i (gi h0 19 i)) 30 i (gi h0 20 i)) := HH_pt (q := (0, 9)) k4 (bd_u rfl (by omega)) b5.1 b5.2
    refine E_inc rfl L2 (nJ_inc _) (fun lv1 K2 kp => ?_)
    refine E_goto rfl ?_
    refine ih lv1 (i := i + 1) (by omega) k5 ?_ (fun k hk => ?_) (kp 0 _ (by decide) rfl L0) (kp 1 _ (by decide) rfl L1) K2
    · exact fr_ptr (l := 0) (u := 7) rfl (by omega) (by omega) (fr_ptr (l := 0) (u := 7) rfl (by omega) (by omega) (fr_ptr (l := 0) (u := 7) rfl (by omega) (by omega) (fr_ptr (l := 0) (u := 7) rfl (by omega) (by omega) (fr_ptr (l := 0) (u := 7) rfl (by omega) (by omega) (hf)))))
    · by_cases e : k = i
      · subst e
        refine ⟨?_, ?_, ?_, ?_, ?_⟩
        · rw [gi_ne (by omega), gi_ne (by omega), gi_ne (by omega), gi_ne (by omega)]; exact gi_pt (q := (0, 8)) hh (bd_u rfl (by omega)) b1.1 b1.2
        · rw [gi_ne (by omega), gi_ne (by omega), gi_ne (by omega)]; exact gi_pt (q := (0, 8)) k1 (bd_u rfl (by omega)) b2.1 b2.2
        · rw [gi_ne (by omega), gi_ne (by omega)]; exact gi_pt (q := (0, 99)) k2 (bd_u rfl (by omega)) b3.1 b3.2
        · rw [gi_ne (by omega)]; exact gi_pt (q := (0, 9)) k3 (bd_u rfl (by omega)) b4.1 b4.2
        · exact gi_pt (q := (0, 9)) k4 (bd_u rfl (by omega)) b5.1 b5.2
      · have q := hc k (by omega)
        refine ⟨?_, ?_, ?_, ?_, ?_⟩
        · rw [gi_ne (by omega), gi_ne (by omega), gi_ne (by omega), gi_ne (by omega), gi_ne (fun _ => e)]; exact q.1
        · rw [gi_ne (by omega), gi_ne (by omega), gi_ne (by omega), gi_ne (fun _ => e), gi_ne (by omega)]; exact q.2.1
        · rw [gi_ne (by omega), gi_ne (by omega), gi_ne (fun _ => e), gi_ne (by omega), gi_ne (by omega)]; exact q.2.2.1
        · rw [gi_ne (by omega), gi_ne (fun _ => e), gi_ne (by omega), gi_ne (by omega), gi_ne (by omega)]; exact q.2.2.2.1
        · rw [gi_ne (fun _ => e), gi_ne (by omega), gi_ne (by omega), gi_ne (by omega), gi_ne (by omega)]; exact q.2.2.2.2
theorem tk2_25_15 {h0 : pm_H} {d : Nat} {Q : pm_H → Option Value → Prop} (hh0 : HH h0) (K : ∀ (h : pm_H) (lv : List (Nat × Value)), HH h → fr_g [(31, 0, 19), (32, 0, 19), (33, 0, 19)] h0 h → (∀ k, k < 20 → gi h 31 k = gi h0 21 k ∧ gi h 32 k = gi h0 22 k ∧ gi h 33 k = gi h0 23 k) → pm_get lv 0 = some (.ref 25) → pm_get lv 1 = some (.ref 15) → Ends (pm_at tX5_take) (pm_Rt pm_P d) (180, lv, [], h, 0, 0) Q) (j : Nat) : ∀ {h : pm_H} {i : Nat} (lv : List (Nat × Value)), i + j = 20 → HH h → fr_g [(31, 0, 19), (32, 0, 19), (33, 0, 19)] h0 h → (∀ k, k < i → gi h 31 k = gi h0 21 k ∧ gi h 32 k = gi h0 22 k ∧ gi h 33 k = gi h0 23 k) → pm_get lv 0 = some (.ref 25) → pm_get lv 1 = some (.ref 15) → pm_get lv 2 = some (.int (nJ i)) → Ends (pm_at tX5_take) (pm_Rt pm_P d) (132, lv, [], h, 0, 0) Q := by
  induction j with
  | zero =>
    intro h i lv hj hh hf hc L0 L1 L2
    refine E_il rfl L2 ?_
    refine E_ci 20 rfl (by decide) ?_
    refine E_icT rfl (decide_eq_true ((nJ_le (by omega) (by omega)).mpr (by omega))) ?_
    exact K h lv hh hf (fun k hk => hc k (by omega)) L0 L1
  | succ j ih =>
    intro h i lv hj hh hf hc L0 L1 L2
    refine E_il rfl L2 ?_
    refine E_ci 20 rfl (by decide) ?_
    refine E_icF rfl (decide_eq_false (fun q => absurd ((nJ_le (by omega) (by omega)).mp q) (by omega))) ?_
    refine E_al rfl L0 ?_
    refine E_ogr (q := 31) rfl hh rfl rfl ?_
    refine E_il rfl L2 ?_
    refine E_al rfl L1 ?_
    refine E_ogr (q := 21) rfl hh rfl rfl ?_
    refine E_il rfl L2 ?_
    refine E_ial (v := gi h0 21 i) rfl hh rfl (by omega) (by decide) (by rw [fr_gi hf (rg_no rfl _)]) ?_
    have b6 := (ld_gi hh0 (a := 21) (k := i) (q := (0, 7)) (bd_u rfl (by omega))).2
    refine E_ias rfl hh rfl (by omega) (by decide) ?_
    have k6 : HH (pt h 31 i (gi h0 21 i)) := HH_pt (q := (0, 7)) hh (bd_u rfl (by omega)) b6.1 b6.2
    refine E_al rfl L0 ?_
    refine E_ogr (q := 32) rfl k6 rfl rfl ?_
    refine E_il rfl L2 ?_
    refine E_al rfl L1 ?_
    refine E_ogr (q := 22) rfl k6 rfl rfl ?_
    refine E_il rfl L2 ?_
    refine E_ial (v := gi h0 22 i) rfl k6 rfl (by omega) (by decide) (by rw [gi_ne (by omega), fr_gi hf (rg_no rfl _)]) ?_
    have b7 := (ld_gi hh0 (a := 22) (k := i) (q := (0, 8)) (bd_u rfl (by omega))).2
    refine E_ias rfl k6 rfl (by omega) (by decide) ?_
    have k7 : HH (pt (pt h 31 i (gi h0 21 i)) 32 i (gi h0 22 i)) := HH_pt (q := (0, 8)) k6 (bd_u rfl (by omega)) b7.1 b7.2
    refine E_al rfl L0 ?_
    refine E_ogr (q := 33) rfl k7 rfl rfl ?_
    refine E_il rfl L2 ?_
    refine E_al rfl L1 ?_
    refine E_ogr (q := 23) rfl k7 rfl rfl ?_
    refine E_il rfl L2 ?_
    refine E_zalB (v := gi h0 23 i) rfl k7 rfl (by omega) (by decide) (by rw [gi_ne (by omega), gi_ne (by omega), fr_gi hf (rg_no rfl _)]) ?_
    have b8 := (ld_gi hh0 (a := 23) (k := i) (q := (0, 1)) (bd_u rfl (by omega))).2
    refine E_zasB rfl k7 rfl (by omega) (by decide) (nar_z b8.1 b8.2) ?_
    have k8 : HH (pt (pt (pt h 31 i (gi h0 21 i)) 32 i (gi h0 22 i)) 33 i (gi h0 23 i)) := HH_pt (q := (0, 1)) k7 (bd_u rfl (by omega)) b8.1 b8.2
    refine E_inc rfl L2 (nJ_inc _) (fun lv1 K2 kp => ?_)
    refine E_goto rfl ?_
    refine ih lv1 (i := i + 1) (by omega) k8 ?_ (fun k hk => ?_) (kp 0 _ (by decide) rfl L0) (kp 1 _ (by decide) rfl L1) K2
    · exact fr_ptr (l := 0) (u := 19) rfl (by omega) (by omega) (fr_ptr (l := 0) (u := 19) rfl (by omega) (by omega) (fr_ptr (l := 0) (u := 19) rfl (by omega) (by omega) (hf)))
    · by_cases e : k = i
      · subst e
        refine ⟨?_, ?_, ?_⟩
        · rw [gi_ne (by omega), gi_ne (by omega)]; exact gi_pt (q := (0, 7)) hh (bd_u rfl (by omega)) b6.1 b6.2
        · rw [gi_ne (by omega)]; exact gi_pt (q := (0, 8)) k6 (bd_u rfl (by omega)) b7.1 b7.2
        · exact gi_pt (q := (0, 1)) k7 (bd_u rfl (by omega)) b8.1 b8.2
      · have q := hc k (by omega)
        refine ⟨?_, ?_, ?_⟩
        · rw [gi_ne (by omega), gi_ne (by omega), gi_ne (fun _ => e)]; exact q.1
        · rw [gi_ne (by omega), gi_ne (fun _ => e), gi_ne (by omega)]; exact q.2.1
        · rw [gi_ne (fun _ => e), gi_ne (by omega), gi_ne (by omega)]; exact q.2.2
noncomputable def TkF_25_15 : List Rng := [(25, 0, 6), (26, 0, 7), (27, 0, 7), (28, 0, 7), (29, 0, 7), (30, 0, 7), (31, 0, 19), (32, 0, 19), (33, 0, 19)]
noncomputable def TkQ_25_15 (h h' : pm_H) (r : Option Value) : Prop := r = none ∧ HH h' ∧ fr_g TkF_25_15 h h' ∧ (∀ k, k < 7 → gi h' 25 k = gi h 15 k) ∧ (∀ k, k < 8 → gi h' 26 k = gi h 16 k ∧ gi h' 27 k = gi h 17 k ∧ gi h' 28 k = gi h 18 k ∧ gi h' 29 k = gi h 19 k ∧ gi h' 30 k = gi h 20 k) ∧ ∀ k, k < 20 → gi h' 31 k = gi h 21 k ∧ gi h' 32 k = gi h 22 k ∧ gi h' 33 k = gi h 23 k
theorem sp_take_25_15 {h : pm_H} {d : Nat} (hh : HH h) : Sp (d + 1) 54 h [.ref 25, .ref 15] (TkQ_25_15 h) := by
  refine Sp_of aiX5_take rfl rfl rfl ?_
  have L0 : pm_get (lv_args 0 [.ref 25, .ref 15]) 0 = some (.ref 25) := rfl
  have L1 : pm_get (lv_args 0 [.ref 25, .ref 15]) 1 = some (.ref 15) := rfl
  generalize lv_args 0 [.ref 25, .ref 15] = lv at L0 L1 ⊢
  have st : ∀ {k : Nat} {q : Int × Int} {g : pm_H}, k < 7 → bd 25 k = some q → bd 15 k = some q → HH g → fr_g [(25, 0, 6)] h g → (∀ i, i < k → gi g 25 i = gi h 15 i) → HH (pt g 25 k (gi h 15 k)) ∧ fr_g [(25, 0, 6)] h (pt g 25 k (gi h 15 k)) ∧ ∀ i, i < k + 1 → gi (pt g 25 k (gi h 15 k)) 25 i = gi h 15 i := by
    intro k q g hk hb hb2 hg hf ha
    have b := (ld_gi hh hb2).2
    refine ⟨HH_pt hg hb b.1 b.2, fr_ptr (l := 0) (u := 6) rfl (by omega) (by omega) hf, fun i hi => ?_⟩
    by_cases e : i = k
    · rw [e]; exact gi_pt hg hb b.1 b.2
    · rw [gi_ne (fun _ => e)]; exact ha i (by omega)
  refine E_al rfl L0 ?_
  refine E_al rfl L1 ?_
  refine E_ogf (q := (0, 8)) (v := gi h 15 0) rfl hh rfl rfl rfl ?_
  refine E_opf (q := (0, 8)) rfl hh rfl rfl ?_
  obtain ⟨a0, b0, c0⟩ := st (k := 0) (q := (0, 8)) (by decide) rfl rfl hh (fr_rf _ _) (fun i hi => absurd hi (Nat.not_lt_zero i))
  refine E_al rfl L0 ?_
  refine E_al rfl L1 ?_
  refine E_ogf (q := (0, 3)) (v := gi h 15 1) rfl a0 rfl rfl (fr_gi b0 (rg_no rfl _)) ?_
  refine E_opf (q := (0, 3)) rfl a0 rfl rfl ?_
  obtain ⟨a1, b1, c1⟩ := st (k := 1) (q := (0, 3)) (by decide) rfl rfl a0 b0 c0
  refine E_al rfl L0 ?_
  refine E_al rfl L1 ?_
  refine E_ogf (q := (0, 10)) (v := gi h 15 2) rfl a1 rfl rfl (fr_gi b1 (rg_no rfl _)) ?_
  refine E_opf (q := (0, 10)) rfl a1 rfl rfl ?_
  obtain ⟨a2, b2, c2⟩ := st (k := 2) (q := (0, 10)) (by decide) rfl rfl a1 b1 c1
  refine E_al rfl L0 ?_
  refine E_al rfl L1 ?_
  refine E_ogf (q := ((-2147483648), 2147483647)) (v := gi h 15 3) rfl a2 rfl rfl (fr_gi b2 (rg_no rfl _)) ?_
  refine E_opf (q := ((-2147483648), 2147483647)) rfl a2 rfl rfl ?_
  obtain ⟨a3, b3, c3⟩ := st (k := 3) (q := ((-2147483648), 2147483647)) (by decide) rfl rfl a2 b2 c2
  refine E_al rfl L0 ?_
  refine E_al rfl L1 ?_
  refine E_ogf (q := (0, 8)) (v := gi h 15 4) rfl a3 rfl rfl (fr_gi b3 (rg_no rfl _)) ?_
  refine E_opf (q := (0, 8)) rfl a3 rfl rfl ?_
  obtain ⟨a4, b4, c4⟩ := st (k := 4) (q := (0, 8)) (by decide) rfl rfl a3 b3 c3
  refine E_al rfl L0 ?_
  refine E_al rfl L1 ?_
  refine E_ogf (q := (0, 8)) (v := gi h 15 5) rfl a4 rfl rfl (fr_gi b4 (rg_no rfl _)) ?_
  refine E_opf (q := (0, 8)) rfl a4 rfl rfl ?_
  obtain ⟨a5, b5, c5⟩ := st (k := 5) (q := (0, 8)) (by decide) rfl rfl a4 b4 c4
  refine E_al rfl L0 ?_
  refine E_al rfl L1 ?_
  refine E_ogf (q := (0, 20)) (v := gi h 15 6) rfl a5 rfl rfl (fr_gi b5 (rg_no rfl _)) ?_
  refine E_opf (q := (0, 20)) rfl a5 rfl rfl ?_
  obtain ⟨a6, b6, c6⟩ := st (k := 6) (q := (0, 20)) (by decide) rfl rfl a5 b5 c5
  generalize (pt (pt (pt (pt (pt (pt (pt h 25 0 (gi h 15 0)) 25 1 (gi h 15 1)) 25 2 (gi h 15 2)) 25 3 (gi h 15 3)) 25 4 (gi h 15 4)) 25 5 (gi h 15 5)) 25 6 (gi h 15 6)) = h6 at a6 b6 c6 ⊢
  refine E_ci 0 rfl (by decide) ?_
  refine E_is rfl (fun lv1 K2 kp => ?_)
  refine tk1_25_15 a6 (fun h7 lv2 hh7 f7 c7 M0 M1 => ?_) 8 (i := 0) lv1 (by omega) a6 (fr_rf _ _) (fun k hk => absurd hk (Nat.not_lt_zero k)) (kp 0 _ (by decide) rfl L0) (kp 1 _ (by decide) rfl L1) K2
  refine E_ci 0 rfl (by decide) ?_
  refine E_is rfl (fun lv3 K3 kp3 => ?_)
  refine tk2_25_15 hh7 (fun h8 lv4 hh8 f8 c8 N0 N1 => ?_) 20 (i := 0) lv3 (by omega) hh7 (fr_rf _ _) (fun k hk => absurd hk (Nat.not_lt_zero k)) (kp3 0 _ (by decide) rfl M0) (kp3 1 _ (by decide) rfl M1) K3
  refine E_ret rfl ⟨rfl, hh8, fr_trans (fr_wk rfl b6) (fr_trans (fr_wk rfl f7) (fr_wk rfl f8)), fun k hk => ?_, fun k hk => ?_, fun k hk => ?_⟩
  · rw [fr_gi f8 (rg_no rfl _), fr_gi f7 (rg_no rfl _)]; exact c6 k hk
  · obtain ⟨q1, q2, q3, q4, q5⟩ := c7 k hk
    refine ⟨?_, ?_, ?_, ?_, ?_⟩
    · rw [fr_gi f8 (rg_no rfl _), q1, fr_gi b6 (rg_no rfl _)]
    · rw [fr_gi f8 (rg_no rfl _), q2, fr_gi b6 (rg_no rfl _)]
    · rw [fr_gi f8 (rg_no rfl _), q3, fr_gi b6 (rg_no rfl _)]
    · rw [fr_gi f8 (rg_no rfl _), q4, fr_gi b6 (rg_no rfl _)]
    · rw [fr_gi f8 (rg_no rfl _), q5, fr_gi b6 (rg_no rfl _)]
  · obtain ⟨q6, q7, q8⟩ := c8 k hk
    refine ⟨?_, ?_, ?_⟩
    · rw [q6, fr_gi f7 (rg_no rfl _), fr_gi b6 (rg_no rfl _)]
    · rw [q7, fr_gi f7 (rg_no rfl _), fr_gi b6 (rg_no rfl _)]
    · rw [q8, fr_gi f7 (rg_no rfl _), fr_gi b6 (rg_no rfl _)]
theorem tk1_34_15 {h0 : pm_H} {d : Nat} {Q : pm_H → Option Value → Prop} (hh0 : HH h0) (K : ∀ (h : pm_H) (lv : List (Nat × Value)), HH h → fr_g [(35, 0, 7), (36, 0, 7), (37, 0, 7), (38, 0, 7), (39, 0, 7)] h0 h → (∀ k, k < 8 → gi h 35 k = gi h0 16 k ∧ gi h 36 k = gi h0 17 k ∧ gi h 37 k = gi h0 18 k ∧ gi h 38 k = gi h0 19 k ∧ gi h 39 k = gi h0 20 k) → pm_get lv 0 = some (.ref 34) → pm_get lv 1 = some (.ref 15) → Ends (pm_at tX5_take) (pm_Rt pm_P d) (130, lv, [], h, 0, 0) Q) (j : Nat) : ∀ {h : pm_H} {i : Nat} (lv : List (Nat × Value)), i + j = 8 → HH h → fr_g [(35, 0, 7), (36, 0, 7), (37, 0, 7), (38, 0, 7), (39, 0, 7)] h0 h → (∀ k, k < i → gi h 35 k = gi h0 16 k ∧ gi h 36 k = gi h0 17 k ∧ gi h 37 k = gi h0 18 k ∧ gi h 38 k = gi h0 19 k ∧ gi h 39 k = gi h0 20 k) → pm_get lv 0 = some (.ref 34) → pm_get lv 1 = some (.ref 15) → pm_get lv 2 = some (.int (nJ i)) → Ends (pm_at tX5_take) (pm_Rt pm_P d) (58, lv, [], h, 0, 0) Q := by
  induction j with
  | zero =>
    intro h i lv hj hh hf hc L0 L1 L2
    refine E_il rfl L2 ?_
    refine E_ci 8 rfl (by decide) ?_
    refine E_icT rfl (decide_eq_true ((nJ_le (by omega) (by omega)).mpr (by omega))) ?_
    exact K h lv hh hf (fun k hk => hc k (by omega)) L0 L1
  | succ j ih =>
    intro h i lv hj hh hf hc L0 L1 L2
    refine E_il rfl L2 ?_
    refine E_ci 8 rfl (by decide) ?_
    refine E_icF rfl (decide_eq_false (fun q => absurd ((nJ_le (by omega) (by omega)).mp q) (by omega))) ?_
    refine E_al rfl L0 ?_
    refine E_ogr (q := 35) rfl hh rfl rfl ?_
    refine E_il rfl L2 ?_
    refine E_al rfl L1 ?_
    refine E_ogr (q := 16) rfl hh rfl rfl ?_
    refine E_il rfl L2 ?_
    refine E_ial (v := gi h0 16 i) rfl hh rfl (by omega) (by decide) (by rw [fr_gi hf (rg_no rfl _)]) ?_
    have b1 := (ld_gi hh0 (a := 16) (k := i) (q := (0, 8)) (bd_u rfl (by omega))).2
    refine E_ias rfl hh rfl (by omega) (by decide) ?_
    have k1 : HH (pt h 35 i (gi h0 16 i)) := HH_pt (q := (0, 8)) hh (bd_u rfl (by omega)) b1.1 b1.2
    refine E_al rfl L0 ?_
    refine E_ogr (q := 36) rfl k1 rfl rfl ?_
    refine E_il rfl L2 ?_
    refine E_al rfl L1 ?_
    refine E_ogr (q := 17) rfl k1 rfl rfl ?_
    refine E_il rfl L2 ?_
    refine E_ial (v := gi h0 17 i) rfl k1 rfl (by omega) (by decide) (by rw [gi_ne (by omega), fr_gi hf (rg_no rfl _)]) ?_
    have b2 := (ld_gi hh0 (a := 17) (k := i) (q := (0, 8)) (bd_u rfl (by omega))).2
    refine E_ias rfl k1 rfl (by omega) (by decide) ?_
    have k2 : HH (pt (pt h 35 i (gi h0 16 i)) 36 i (gi h0 17 i)) := HH_pt (q := (0, 8)) k1 (bd_u rfl (by omega)) b2.1 b2.2
    refine E_al rfl L0 ?_
    refine E_ogr (q := 37) rfl k2 rfl rfl ?_
    refine E_il rfl L2 ?_
    refine E_al rfl L1 ?_
    refine E_ogr (q := 18) rfl k2 rfl rfl ?_
    refine E_il rfl L2 ?_
    refine E_ial (v := gi h0 18 i) rfl k2 rfl (by omega) (by decide) (by rw [gi_ne (by omega), gi_ne (by omega), fr_gi hf (rg_no rfl _)]) ?_
    have b3 := (ld_gi hh0 (a := 18) (k := i) (q := (0, 99)) (bd_u rfl (by omega))).2
    refine E_ias rfl k2 rfl (by omega) (by decide) ?_
    have k3 : HH (pt (pt (pt h 35 i (gi h0 16 i)) 36 i (gi h0 17 i)) 37 i (gi h0 18 i)) := HH_pt (q := (0, 99)) k2 (bd_u rfl (by omega)) b3.1 b3.2
    refine E_al rfl L0 ?_
    refine E_ogr (q := 38) rfl k3 rfl rfl ?_
    refine E_il rfl L2 ?_
    refine E_al rfl L1 ?_
    refine E_ogr (q := 19) rfl k3 rfl rfl ?_
    refine E_il rfl L2 ?_
    refine E_ial (v := gi h0 19 i) rfl k3 rfl (by omega) (by decide) (by rw [gi_ne (by omega), gi_ne (by omega), gi_ne (by omega), fr_gi hf (rg_no rfl _)]) ?_
    have b4 := (ld_gi hh0 (a := 19) (k := i) (q := (0, 9)) (bd_u rfl (by omega))).2
    refine E_ias rfl k3 rfl (by omega) (by decide) ?_
    have k4 : HH (pt (pt (pt (pt h 35 i (gi h0 16 i)) 36 i (gi h0 17 i)) 37 i (gi h0 18 i)) 38 i (gi h0 19 i)) := HH_pt (q := (0, 9)) k3 (bd_u rfl (by omega)) b4.1 b4.2
    refine E_al rfl L0 ?_
    refine E_ogr (q := 39) rfl k4 rfl rfl ?_
    refine E_il rfl L2 ?_
    refine E_al rfl L1 ?_
    refine E_ogr (q := 20) rfl k4 rfl rfl ?_
    refine E_il rfl L2 ?_
    refine E_ial (v := gi h0 20 i) rfl k4 rfl (by omega) (by decide) (by rw [gi_ne (by omega), gi_ne (by omega), gi_ne (by omega), gi_ne (by omega), fr_gi hf (rg_no rfl _)]) ?_
    have b5 := (ld_gi hh0 (a := 20) (k := i) (q := (0, 9)) (bd_u rfl (by omega))).2
    refine E_ias rfl k4 rfl (by omega) (by decide) ?_
    have k5 : HH (pt (pt (pt (pt (pt h 35 i (gi h0 16 i)) 36 i (gi h0 17 i)) 37 i (gi h0 18 i)) 38 i (gi h0 19 i)) 39 i (gi h0 20 i)) := HH_pt (q := (0, 9)) k4 (bd_u rfl (by omega)) b5.1 b5.2
    refine E_inc rfl L2 (nJ_inc _) (fun lv1 K2 kp => ?_)
    refine E_goto rfl ?_
    refine ih lv1 (i := i + 1) (by omega) k5 ?_ (fun k hk => ?_) (kp 0 _ (by decide) rfl L0) (kp 1 _ (by decide) rfl L1) K2
    · exact fr_ptr (l := 0) (u := 7) rfl (by omega) (by omega) (fr_ptr (l := 0) (u := 7) rfl (by omega) (by omega) (fr_ptr (l := 0) (u := 7) rfl (by omega) (by omega) (fr_ptr (l := 0) (u := 7) rfl (by omega) (by omega) (fr_ptr (l := 0) (u := 7) rfl (by omega) (by omega) (hf)))))
    · by_cases e : k = i
      · subst e
        refine ⟨?_, ?_, ?_, ?_, ?_⟩
        · rw [gi_ne (by omega), gi_ne (by omega), gi_ne (by omega), gi_ne (by omega)]; exact gi_pt (q := (0, 8)) hh (bd_u rfl (by omega)) b1.1 b1.2
        · rw [gi_ne (by omega), gi_ne (by omega), gi_ne (by omega)]; exact gi_pt (q := (0, 8)) k1 (bd_u rfl (by omega)) b2.1 b2.2
        · rw [gi_ne (by omega), gi_ne (by omega)]; exact gi_pt (q := (0, 99)) k2 (bd_u rfl (by omega)) b3.1 b3.2
        · rw [gi_ne (by omega)]; exact gi_pt (q := (0, 9)) k3 (bd_u rfl (by omega)) b4.1 b4.2
        · exact gi_pt (q := (0, 9)) k4 (bd_u rfl (by omega)) b5.1 b5.2
      · have q := hc k (by omega)
        refine ⟨?_, ?_, ?_, ?_, ?_⟩
        · rw [gi_ne (by omega), gi_ne (by omega), gi_ne (by omega), gi_ne (by omega), gi_ne (fun _ => e)]; exact q.1
        · rw [gi_ne (by omega), gi_ne (by omega), gi_ne (by omega), gi_ne (fun _ => e), gi_ne (by omega)]; exact q.2.1
        · rw [gi_ne (by omega), gi_ne (by omega), gi_ne (fun _ => e), gi_ne (by omega), gi_ne (by omega)]; exact q.2.2.1
        · rw [gi_ne (by omega), gi_ne (fun _ => e), gi_ne (by omega), gi_ne (by omega), gi_ne (by omega)]; exact q.2.2.2.1
        · rw [gi_ne (fun _ => e), gi_ne (by omega), gi_ne (by omega), gi_ne (by omega), gi_ne (by omega)]; exact q.2.2.2.2
theorem tk2_34_15 {h0 : pm_H} {d : Nat} {Q : pm_H → Option Value → Prop} (hh0 : HH h0) (K : ∀ (h : pm_H) (lv : List (Nat × Value)), HH h → fr_g [(40, 0, 19), (41, 0, 19), (42, 0, 19)] h0 h → (∀ k, k < 20 → gi h 40 k = gi h0 21 k ∧ gi h 41 k = gi h0 22 k ∧ gi h 42 k = gi h0 23 k) → pm_get lv 0 = some (.ref 34) → pm_get lv 1 = some (.ref 15) → Ends (pm_at tX5_take) (pm_Rt pm_P d) (180, lv, [], h, 0, 0) Q) (j : Nat) : ∀ {h : pm_H} {i : Nat} (lv : List (Nat × Value)), i + j = 20 → HH h → fr_g [(40, 0, 19), (41, 0, 19), (42, 0, 19)] h0 h → (∀ k, k < i → gi h 40 k = gi h0 21 k ∧ gi h 41 k = gi h0 22 k ∧ gi h 42 k = gi h0 23 k) → pm_get lv 0 = some (.ref 34) → pm_get lv 1 = some (.ref 15) → pm_get lv 2 = some (.int (nJ i)) → Ends (pm_at tX5_take) (pm_Rt pm_P d) (132, lv, [], h, 0, 0) Q := by
  induction j with
  | zero =>
    intro h i lv hj hh hf hc L0 L1 L2
    refine E_il rfl L2 ?_
    refine E_ci 20 rfl (by decide) ?_
    refine E_icT rfl (decide_eq_true ((nJ_le (by omega) (by omega)).mpr (by omega))) ?_
    exact K h lv hh hf (fun k hk => hc k (by omega)) L0 L1
  | succ j ih =>
    intro h i lv hj hh hf hc L0 L1 L2
    refine E_il rfl L2 ?_
    refine E_ci 20 rfl (by decide) ?_
    refine E_icF rfl (decide_eq_false (fun q => absurd ((nJ_le (by omega) (by omega)).mp q) (by omega))) ?_
    refine E_al rfl L0 ?_
    refine E_ogr (q := 40) rfl hh rfl rfl ?_
    refine E_il rfl L2 ?_
    refine E_al rfl L1 ?_
    refine E_ogr (q := 21) rfl hh rfl rfl ?_
    refine E_il rfl L2 ?_
    refine E_ial (v := gi h0 21 i) rfl hh rfl (by omega) (by decide) (by rw [fr_gi hf (rg_no rfl _)]) ?_
    have b6 := (ld_gi hh0 (a := 21) (k := i) (q := (0, 7)) (bd_u rfl (by omega))).2
    refine E_ias rfl hh rfl (by omega) (by decide) ?_
    have k6 : HH (pt h 40 i (gi h0 21 i)) := HH_pt (q := (0, 7)) hh (bd_u rfl (by omega)) b6.1 b6.2
    refine E_al rfl L0 ?_
    refine E_ogr (q := 41) rfl k6 rfl rfl ?_
    refine E_il rfl L2 ?_
    refine E_al rfl L1 ?_
    refine E_ogr (q := 22) rfl k6 rfl rfl ?_
    refine E_il rfl L2 ?_
    refine E_ial (v := gi h0 22 i) rfl k6 rfl (by omega) (by decide) (by rw [gi_ne (by omega), fr_gi hf (rg_no rfl _)]) ?_
    have b7 := (ld_gi hh0 (a := 22) (k := i) (q := (0, 8)) (bd_u rfl (by omega))).2
    refine E_ias rfl k6 rfl (by omega) (by decide) ?_
    have k7 : HH (pt (pt h 40 i (gi h0 21 i)) 41 i (gi h0 22 i)) := HH_pt (q := (0, 8)) k6 (bd_u rfl (by omega)) b7.1 b7.2
    refine E_al rfl L0 ?_
    refine E_ogr (q := 42) rfl k7 rfl rfl ?_
    refine E_il rfl L2 ?_
    refine E_al rfl L1 ?_
    refine E_ogr (q := 23) rfl k7 rfl rfl ?_
    refine E_il rfl L2 ?_
    refine E_zalB (v := gi h0 23 i) rfl k7 rfl (by omega) (by decide) (by rw [gi_ne (by omega), gi_ne (by omega), fr_gi hf (rg_no rfl _)]) ?_
    have b8 := (ld_gi hh0 (a := 23) (k := i) (q := (0, 1)) (bd_u rfl (by omega))).2
    refine E_zasB rfl k7 rfl (by omega) (by decide) (nar_z b8.1 b8.2) ?_
    have k8 : HH (pt (pt (pt h 40 i (gi h0 21 i)) 41 i (gi h0 22 i)) 42 i (gi h0 23 i)) := HH_pt (q := (0, 1)) k7 (bd_u rfl (by omega)) b8.1 b8.2
    refine E_inc rfl L2 (nJ_inc _) (fun lv1 K2 kp => ?_)
    refine E_goto rfl ?_
    refine ih lv1 (i := i + 1) (by omega) k8 ?_ (fun k hk => ?_) (kp 0 _ (by decide) rfl L0) (kp 1 _ (by decide) rfl L1) K2
    · exact fr_ptr (l := 0) (u := 19) rfl (by omega) (by omega) (fr_ptr (l := 0) (u := 19) rfl (by omega) (by omega) (fr_ptr (l := 0) (u := 19) rfl (by omega) (by omega) (hf)))
    · by_cases e : k = i
      · subst e
        refine ⟨?_, ?_, ?_⟩
        · rw [gi_ne (by omega), gi_ne (by omega)]; exact gi_pt (q := (0, 7)) hh (bd_u rfl (by omega)) b6.1 b6.2
        · rw [gi_ne (by omega)]; exact gi_pt (q := (0, 8)) k6 (bd_u rfl (by omega)) b7.1 b7.2
        · exact gi_pt (q := (0, 1)) k7 (bd_u rfl (by omega)) b8.1 b8.2
      · have q := hc k (by omega)
        refine ⟨?_, ?_, ?_⟩
        · rw [gi_ne (by omega), gi_ne (by omega), gi_ne (fun _ => e)]; exact q.1
        · rw [gi_ne (by omega), gi_ne (fun _ => e), gi_ne (by omega)]; exact q.2.1
        · rw [gi_ne (fun _ => e), gi_ne (by omega), gi_ne (by omega)]; exact q.2.2
noncomputable def TkF_34_15 : List Rng := [(34, 0, 6), (35, 0, 7), (36, 0, 7), (37, 0, 7), (38, 0, 7), (39, 0, 7), (40, 0, 19), (41, 0, 19), (42, 0, 19)]
noncomputable def TkQ_34_15 (h h' : pm_H) (r : Option Value) : Prop := r = none ∧ HH h' ∧ fr_g TkF_34_15 h h' ∧ (∀ k, k < 7 → gi h' 34 k = gi h 15 k) ∧ (∀ k, k < 8 → gi h' 35 k = gi h 16 k ∧ gi h' 36 k = gi h 17 k ∧ gi h' 37 k = gi h 18 k ∧ gi h' 38 k = gi h 19 k ∧ gi h' 39 k = gi h 20 k) ∧ ∀ k, k < 20 → gi h' 40 k = gi h 21 k ∧ gi h' 41 k = gi h 22 k ∧ gi h' 42 k = gi h 23 k
theorem sp_take_34_15 {h : pm_H} {d : Nat} (hh : HH h) : Sp (d + 1) 54 h [.ref 34, .ref 15] (TkQ_34_15 h) := by
  refine Sp_of aiX5_take rfl rfl rfl ?_
  have L0 : pm_get (lv_args 0 [.ref 34, .ref 15]) 0 = some (.ref 34) := rfl
  have L1 : pm_get (lv_args 0 [.ref 34, .ref 15]) 1 = some (.ref 15) := rfl
  generalize lv_args 0 [.ref 34, .ref 15] = lv at L0 L1 ⊢
  have st : ∀ {k : Nat} {q : Int × Int} {g : pm_H}, k < 7 → bd 34 k = some q → bd 15 k = some q → HH g → fr_g [(34, 0, 6)] h g → (∀ i, i < k → gi g 34 i = gi h 15 i) → HH (pt g 34 k (gi h 15 k)) ∧ fr_g [(34, 0, 6)] h (pt g 34 k (gi h 15 k)) ∧ ∀ i, i < k + 1 → gi (pt g 34 k (gi h 15 k)) 34 i = gi h 15 i := by
    intro k q g hk hb hb2 hg hf ha
    have b := (ld_gi hh hb2).2
    refine ⟨HH_pt hg hb b.1 b.2, fr_ptr (l := 0) (u := 6) rfl (by omega) (by omega) hf, fun i hi => ?_⟩
    by_cases e : i = k
    · rw [e]; exact gi_pt hg hb b.1 b.2
    · rw [gi_ne (fun _ => e)]; exact ha i (by omega)
  refine E_al rfl L0 ?_
  refine E_al rfl L1 ?_
  refine E_ogf (q := (0, 8)) (v := gi h 15 0) rfl hh rfl rfl rfl ?_
  refine E_opf (q := (0, 8)) rfl hh rfl rfl ?_
  obtain ⟨a0, b0, c0⟩ := st (k := 0) (q := (0, 8)) (by decide) rfl rfl hh (fr_rf _ _) (fun i hi => absurd hi (Nat.not_lt_zero i))
  refine E_al rfl L0 ?_
  refine E_al rfl L1 ?_
  refine E_ogf (q := (0, 3)) (v := gi h 15 1) rfl a0 rfl rfl (fr_gi b0 (rg_no rfl _)) ?_
  refine E_opf (q := (0, 3)) rfl a0 rfl rfl ?_
  obtain ⟨a1, b1, c1⟩ := st (k := 1) (q := (0, 3)) (by decide) rfl rfl a0 b0 c0
  refine E_al rfl L0 ?_
  refine E_al rfl L1 ?_
  refine E_ogf (q := (0, 10)) (v := gi h 15 2) rfl a1 rfl rfl (fr_gi b1 (rg_no rfl _)) ?_
  refine E_opf (q := (0, 10)) rfl a1 rfl rfl ?_
  obtain ⟨a2, b2, c2⟩ := st (k := 2) (q := (0, 10)) (by decide) rfl rfl a1 b1 c1
  refine E_al rfl L0 ?_
  refine E_al rfl L1 ?_
  refine E_ogf (q := ((-2147483648), 2147483647)) (v := gi h 15 3) rfl a2 rfl rfl (fr_gi b2 (rg_no rfl _)) ?_
  refine E_opf (q := ((-2147483648), 2147483647)) rfl a2 rfl rfl ?_
  obtain ⟨a3, b3, c3⟩ := st (k := 3) (q := ((-2147483648), 2147483647)) (by decide) rfl rfl a2 b2 c2
  refine E_al rfl L0 ?_
  refine E_al rfl L1 ?_
  refine E_ogf (q := (0, 8)) (v := gi h 15 4) rfl a3 rfl rfl (fr_gi b3 (rg_no rfl _)) ?_
  refine E_opf (q := (0, 8)) rfl a3 rfl rfl ?_
  obtain ⟨a4, b4, c4⟩ := st (k := 4) (q := (0, 8)) (by decide) rfl rfl a3 b3 c3
  refine E_al rfl L0 ?_
  refine E_al rfl L1 ?_
  refine E_ogf (q := (0, 8)) (v := gi h 15 5) rfl a4 rfl rfl (fr_gi b4 (rg_no rfl _)) ?_
  refine E_opf (q := (0, 8)) rfl a4 rfl rfl ?_
  obtain ⟨a5, b5, c5⟩ := st (k := 5) (q := (0, 8)) (by decide) rfl rfl a4 b4 c4
  refine E_al rfl L0 ?_
  refine E_al rfl L1 ?_
  refine E_ogf (q := (0, 20)) (v := gi h 15 6) rfl a5 rfl rfl (fr_gi b5 (rg_no rfl _)) ?_
  refine E_opf (q := (0, 20)) rfl a5 rfl rfl ?_
  obtain ⟨a6, b6, c6⟩ := st (k := 6) (q := (0, 20)) (by decide) rfl rfl a5 b5 c5
  generalize (pt (pt (pt (pt (pt (pt (pt h 34 0 (gi h 15 0)) 34 1 (gi h 15 1)) 34 2 (gi h 15 2)) 34 3 (gi h 15 3)) 34 4 (gi h 15 4)) 34 5 (gi h 15 5)) 34 6 (gi h 15 6)) = h6 at a6 b6 c6 ⊢
  refine E_ci 0 rfl (by decide) ?_
  refine E_is rfl (fun lv1 K2 kp => ?_)
  refine tk1_34_15 a6 (fun h7 lv2 hh7 f7 c7 M0 M1 => ?_) 8 (i := 0) lv1 (by omega) a6 (fr_rf _ _) (fun k hk => absurd hk (Nat.not_lt_zero k)) (kp 0 _ (by decide) rfl L0) (kp 1 _ (by decide) rfl L1) K2
  refine E_ci 0 rfl (by decide) ?_
  refine E_is rfl (fun lv3 K3 kp3 => ?_)
  refine tk2_34_15 hh7 (fun h8 lv4 hh8 f8 c8 N0 N1 => ?_) 20 (i := 0) lv3 (by omega) hh7 (fr_rf _ _) (fun k hk => absurd hk (Nat.not_lt_zero k)) (kp3 0 _ (by decide) rfl M0) (kp3 1 _ (by decide) rfl M1) K3
  refine E_ret rfl ⟨rfl, hh8, fr_trans (fr_wk rfl b6) (fr_trans (fr_wk rfl f7) (fr_wk rfl f8)), fun k hk => ?_, fun k hk => ?_, fun k hk => ?_⟩
  · rw [fr_gi f8 (rg_no rfl _), fr_gi f7 (rg_no rfl _)]; exact c6 k hk
  · obtain ⟨q1, q2, q3, q4, q5⟩ := c7 k hk
    refine ⟨?_, ?_, ?_, ?_, ?_⟩
    · rw [fr_gi f8 (rg_no rfl _), q1, fr_gi b6 (rg_no rfl _)]
    · rw [fr_gi f8 (rg_no rfl _), q2, fr_gi b6 (rg_no rfl _)]
    · rw [fr_gi f8 (rg_no rfl _), q3, fr_gi b6 (rg_no rfl _)]
    · rw [fr_gi f8 (rg_no rfl _), q4, fr_gi b6 (rg_no rfl _)]
    · rw [fr_gi f8 (rg_no rfl _), q5, fr_gi b6 (rg_no rfl _)]
  · obtain ⟨q6, q7, q8⟩ := c8 k hk
    refine ⟨?_, ?_, ?_⟩
    · rw [q6, fr_gi f7 (rg_no rfl _), fr_gi b6 (rg_no rfl _)]
    · rw [q7, fr_gi f7 (rg_no rfl _), fr_gi b6 (rg_no rfl _)]
    · rw [q8, fr_gi f7 (rg_no rfl _), fr_gi b6 (rg_no rfl _)]
theorem tk1_43_15 {h0 : pm_H} {d : Nat} {Q : pm_H → Option Value → Prop} (hh0 : HH h0) (K : ∀ (h : pm_H) (lv : List (Nat × Value)), HH h → fr_g [(44, 0, 7), (45, 0, 7), (46, 0, 7), (47, 0, 7), (48, 0, 7)] h0 h → (∀ k, k < 8 → gi h 44 k = gi h0 16 k ∧ gi h 45 k = gi h0 17 k ∧ gi h 46 k = gi h0 18 k ∧ gi h 47 k = gi h0 19 k ∧ gi h 48 k = gi h0 20 k) → pm_get lv 0 = some (.ref 43) → pm_get lv 1 = some (.ref 15) → Ends (pm_at tX5_take) (pm_Rt pm_P d) (130, lv, [], h, 0, 0) Q) (j : Nat) : ∀ {h : pm_H} {i : Nat} (lv : List (Nat × Value)), i + j = 8 → HH h → fr_g [(44, 0, 7), (45, 0, 7), (46, 0, 7), (47, 0, 7), (48, 0, 7)] h0 h → (∀ k, k < i → gi h 44 k = gi h0 16 k ∧ gi h 45 k = gi h0 17 k ∧ gi h 46 k = gi h0 18 k ∧ gi h 47 k = gi h0 19 k ∧ gi h 48 k = gi h0 20 k) → pm_get lv 0 = some (.ref 43) → pm_get lv 1 = some (.ref 15) → pm_get lv 2 = some (.int (nJ i)) → Ends (pm_at tX5_take) (pm_Rt pm_P d) (58, lv, [], h, 0, 0) Q := by
  induction j with
  | zero =>
    intro h i lv hj hh hf hc L0 L1 L2
    refine E_il rfl L2 ?_
    refine E_ci 8 rfl (by decide) ?_
    refine E_icT rfl (decide_eq_true ((nJ_le (by omega) (by omega)).mpr (by omega))) ?_
    exact K h lv hh hf (fun k hk => hc k (by omega)) L0 L1
  | succ j ih =>
    intro h i lv hj hh hf hc L0 L1 L2
    refine E_il rfl L2 ?_
    refine E_ci 8 rfl (by decide) ?_
    refine E_icF rfl (decide_eq_false (fun q => absurd ((nJ_le (by omega) (by omega)).mp q) (by omega))) ?_
    refine E_al rfl L0 ?_
    refine E_ogr (q := 44) rfl hh rfl rfl ?_
    refine E_il rfl L2 ?_
    refine E_al rfl L1 ?_
    refine E_ogr (q := 16) rfl hh rfl rfl ?_
    refine E_il rfl L2 ?_
    refine E_ial (v := gi h0 16 i) rfl hh rfl (by omega) (by decide) (by rw [fr_gi hf (rg_no rfl _)]) ?_
    have b1 := (ld_gi hh0 (a := 16) (k := i) (q := (0, 8)) (bd_u rfl (by omega))).2
    refine E_ias rfl hh rfl (by omega) (by decide) ?_
    have k1 : HH (pt h 44 i (gi h0 16 i)) := HH_pt (q := (0, 8)) hh (bd_u rfl (by omega)) b1.1 b1.2
    refine E_al rfl L0 ?_
    refine E_ogr (q := 45) rfl k1 rfl rfl ?_
    refine E_il rfl L2 ?_
    refine E_al rfl L1 ?_
    refine E_ogr (q := 17) rfl k1 rfl rfl ?_
    refine E_il rfl L2 ?_
    refine E_ial (v := gi h0 17 i) rfl k1 rfl (by omega) (by decide) (by rw [gi_ne (by omega), fr_gi hf (rg_no rfl _)]) ?_
    have b2 := (ld_gi hh0 (a := 17) (k := i) (q := (0, 8)) (bd_u rfl (by omega))).2
    refine E_ias rfl k1 rfl (by omega) (by decide) ?_
    have k2 : HH (pt (pt h 44 i (gi h0 16 i)) 45 i (gi h0 17 i)) := HH_pt (q := (0, 8)) k1 (bd_u rfl (by omega)) b2.1 b2.2
    refine E_al rfl L0 ?_
    refine E_ogr (q := 46) rfl k2 rfl rfl ?_
    refine E_il rfl L2 ?_
    refine E_al rfl L1 ?_
    refine E_ogr (q := 18) rfl k2 rfl rfl ?_
    refine E_il rfl L2 ?_
    refine E_ial (v := gi h0 18 i) rfl k2 rfl (by omega) (by decide) (by rw [gi_ne (by omega), gi_ne (by omega), fr_gi hf (rg_no rfl _)]) ?_
    have b3 := (ld_gi hh0 (a := 18) (k := i) (q := (0, 99)) (bd_u rfl (by omega))).2
    refine E_ias rfl k2 rfl (by omega) (by decide) ?_
    have k3 : HH (pt (pt (pt h 44 i (gi h0 16 i)) 45 i (gi h0 17 i)) 46 i (gi h0 18 i)) := HH_pt (q := (0, 99)) k2 (bd_u rfl (by omega)) b3.1 b3.2
    refine E_al rfl L0 ?_
    refine E_ogr (q := 47) rfl k3 rfl rfl ?_
    refine E_il rfl L2 ?_
    refine E_al rfl L1 ?_
    refine E_ogr (q := 19) rfl k3 rfl rfl ?_
    refine E_il rfl L2 ?_
    refine E_ial (v := gi h0 19 i) rfl k3 rfl (by omega) (by decide) (by rw [gi_ne (by omega), gi_ne (by omega), gi_ne (by omega), fr_gi hf (rg_no rfl _)]) ?_
    have b4 := (ld_gi hh0 (a := 19) (k := i) (q := (0, 9)) (bd_u rfl (by omega))).2
    refine E_ias rfl k3 rfl (by omega) (by decide) ?_
    have k4 : HH (pt (pt (pt (pt h 44 i (gi h0 16 i)) 45 i (gi h0 17 i)) 46 i (gi h0 18 i)) 47 i (gi h0 19 i)) := HH_pt (q := (0, 9)) k3 (bd_u rfl (by omega)) b4.1 b4.2
    refine E_al rfl L0 ?_
    refine E_ogr (q := 48) rfl k4 rfl rfl ?_
    refine E_il rfl L2 ?_
    refine E_al rfl L1 ?_
    refine E_ogr (q := 20) rfl k4 rfl rfl ?_
    refine E_il rfl L2 ?_
    refine E_ial (v := gi h0 20 i) rfl k4 rfl (by omega) (by decide) (by rw [gi_ne (by omega), gi_ne (by omega), gi_ne (by omega), gi_ne (by omega), fr_gi hf (rg_no rfl _)]) ?_
    have b5 := (ld_gi hh0 (a := 20) (k := i) (q := (0, 9)) (bd_u rfl (by omega))).2
    refine E_ias rfl k4 rfl (by omega) (by decide) ?_
    have k5 : HH (pt (pt (pt (pt (pt h 44 i (gi h0 16 i)) 45 i (gi h0 17 i)) 46 i (gi h0 18 i)) 47 i (gi h0 19 i)) 48 i (gi h0 20 i)) := HH_pt (q := (0, 9)) k4 (bd_u rfl (by omega)) b5.1 b5.2
    refine E_inc rfl L2 (nJ_inc _) (fun lv1 K2 kp => ?_)
    refine E_goto rfl ?_
    refine ih lv1 (i := i + 1) (by omega) k5 ?_ (fun k hk => ?_) (kp 0 _ (by decide) rfl L0) (kp 1 _ (by decide) rfl L1) K2
    · exact fr_ptr (l := 0) (u := 7) rfl (by omega) (by omega) (fr_ptr (l := 0) (u := 7) rfl (by omega) (by omega) (fr_ptr (l := 0) (u := 7) rfl (by omega) (by omega) (fr_ptr (l := 0) (u := 7) rfl (by omega) (by omega) (fr_ptr (l := 0) (u := 7) rfl (by omega) (by omega) (hf)))))
    · by_cases e : k = i
      · subst e
        refine ⟨?_, ?_, ?_, ?_, ?_⟩
        · rw [gi_ne (by omega), gi_ne (by omega), gi_ne (by omega), gi_ne (by omega)]; exact gi_pt (q := (0, 8)) hh (bd_u rfl (by omega)) b1.1 b1.2
        · rw [gi_ne (by omega), gi_ne (by omega), gi_ne (by omega)]; exact gi_pt (q := (0, 8)) k1 (bd_u rfl (by omega)) b2.1 b2.2
        · rw [gi_ne (by omega), gi_ne (by omega)]; exact gi_pt (q := (0, 99)) k2 (bd_u rfl (by omega)) b3.1 b3.2
        · rw [gi_ne (by omega)]; exact gi_pt (q := (0, 9)) k3 (bd_u rfl (by omega)) b4.1 b4.2
        · exact gi_pt (q := (0, 9)) k4 (bd_u rfl (by omega)) b5.1 b5.2
      · have q := hc k (by omega)
        refine ⟨?_, ?_, ?_, ?_, ?_⟩
        · rw [gi_ne (by omega), gi_ne (by omega), gi_ne (by omega), gi_ne (by omega), gi_ne (fun _ => e)]; exact q.1
        · rw [gi_ne (by omega), gi_ne (by omega), gi_ne (by omega), gi_ne (fun _ => e), gi_ne (by omega)]; exact q.2.1
        · rw [gi_ne (by omega), gi_ne (by omega), gi_ne (fun _ => e), gi_ne (by omega), gi_ne (by omega)]; exact q.2.2.1
        · rw [gi_ne (by omega), gi_ne (fun _ => e), gi_ne (by omega), gi_ne (by omega), gi_ne (by omega)]; exact q.2.2.2.1
        · rw [gi_ne (fun _ => e), gi_ne (by omega), gi_ne (by omega), gi_ne (by omega), gi_ne (by omega)]; exact q.2.2.2.2
theorem tk2_43_15 {h0 : pm_H} {d : Nat} {Q : pm_H → Option Value → Prop} (hh0 : HH h0) (K : ∀ (h : pm_H) (lv : List (Nat × Value)), HH h → fr_g [(49, 0, 19), (50, 0, 19), (51, 0, 19)] h0 h → (∀ k, k < 20 → gi h 49 k = gi h0 21 k ∧ gi h 50 k = gi h0 22 k ∧ gi h 51 k = gi h0 23 k) → pm_get lv 0 = some (.ref 43) → pm_get lv 1 = some (.ref 15) → Ends (pm_at tX5_take) (pm_Rt pm_P d) (180, lv, [], h, 0, 0) Q) (j : Nat) : ∀ {h : pm_H} {i : Nat} (lv : List (Nat × Value)), i + j = 20 → HH h → fr_g [(49, 0, 19), (50, 0, 19), (51, 0, 19)] h0 h → (∀ k, k < i → gi h 49 k = gi h0 21 k ∧ gi h 50 k = gi h0 22 k ∧ gi h 51 k = gi h0 23 k) → pm_get lv 0 = some (.ref 43) → pm_get lv 1 = some (.ref 15) → pm_get lv 2 = some (.int (nJ i)) → Ends (pm_at tX5_take) (pm_Rt pm_P d) (132, lv, [], h, 0, 0) Q := by
  induction j with
  | zero =>
    intro h i lv hj hh hf hc L0 L1 L2
    refine E_il rfl L2 ?_
    refine E_ci 20 rfl (by decide) ?_
    refine E_icT rfl (decide_eq_true ((nJ_le (by omega) (by omega)).mpr (by omega))) ?_
    exact K h lv hh hf (fun k hk => hc k (by omega)) L0 L1
  | succ j ih =>
    intro h i lv hj hh hf hc L0 L1 L2
    refine E_il rfl L2 ?_
    refine E_ci 20 rfl (by decide) ?_
    refine E_icF rfl (decide_eq_false (fun q => absurd ((nJ_le (by omega) (by omega)).mp q) (by omega))) ?_
    refine E_al rfl L0 ?_
    refine E_ogr (q := 49) rfl hh rfl rfl ?_
    refine E_il rfl L2 ?_
    refine E_al rfl L1 ?_
    refine E_ogr (q := 21) rfl hh rfl rfl ?_
    refine E_il rfl L2 ?_
    refine E_ial (v := gi h0 21 i) rfl hh rfl (by omega) (by decide) (by rw [fr_gi hf (rg_no rfl _)]) ?_
    have b6 := (ld_gi hh0 (a := 21) (k := i) (q := (0, 7)) (bd_u rfl (by omega))).2
    refine E_ias rfl hh rfl (by omega) (by decide) ?_
    have k6 : HH (pt h 49 i (gi h0 21 i)) := HH_pt (q := (0, 7)) hh (bd_u rfl (by omega)) b6.1 b6.2
    refine E_al rfl L0 ?_
    refine E_ogr (q := 50) rfl k6 rfl rfl ?_
    refine E_il rfl L2 ?_
    refine E_al rfl L1 ?_
    refine E_ogr (q := 22) rfl k6 rfl rfl ?_
    refine E_il rfl L2 ?_
    refine E_ial (v := gi h0 22 i) rfl k6 rfl (by omega) (by decide) (by rw [gi_ne (by omega), fr_gi hf (rg_no rfl _)]) ?_
    have b7 := (ld_gi hh0 (a := 22) (k := i) (q := (0, 8)) (bd_u rfl (by omega))).2
    refine E_ias rfl k6 rfl (by omega) (by decide) ?_
    have k7 : HH (pt (pt h 49 i (gi h0 21 i)) 50 i (gi h0 22 i)) := HH_pt (q := (0, 8)) k6 (bd_u rfl (by omega)) b7.1 b7.2
    refine E_al rfl L0 ?_
    refine E_ogr (q := 51) rfl k7 rfl rfl ?_
    refine E_il rfl L2 ?_
    refine E_al rfl L1 ?_
    refine E_ogr (q := 23) rfl k7 rfl rfl ?_
    refine E_il rfl L2 ?_
    refine E_zalB (v := gi h0 23 i) rfl k7 rfl (by omega) (by decide) (by rw [gi_ne (by omega), gi_ne (by omega), fr_gi hf (rg_no rfl _)]) ?_
    have b8 := (ld_gi hh0 (a := 23) (k := i) (q := (0, 1)) (bd_u rfl (by omega))).2
    refine E_zasB rfl k7 rfl (by omega) (by decide) (nar_z b8.1 b8.2) ?_
    have k8 : HH (pt (pt (pt h 49 i (gi h0 21 i)) 50 i (gi h0 22 i)) 51 i (gi h0 23 i)) := HH_pt (q := (0, 1)) k7 (bd_u rfl (by omega)) b8.1 b8.2
    refine E_inc rfl L2 (nJ_inc _) (fun lv1 K2 kp => ?_)
    refine E_goto rfl ?_
    refine ih lv1 (i := i + 1) (by omega) k8 ?_ (fun k hk => ?_) (kp 0 _ (by decide) rfl L0) (kp 1 _ (by decide) rfl L1) K2
    · exact fr_ptr (l := 0) (u := 19) rfl (by omega) (by omega) (fr_ptr (l := 0) (u := 19) rfl (by omega) (by omega) (fr_ptr (l := 0) (u := 19) rfl (by omega) (by omega) (hf)))
    · by_cases e : k = i
      · subst e
        refine ⟨?_, ?_, ?_⟩
        · rw [gi_ne (by omega), gi_ne (by omega)]; exact gi_pt (q := (0, 7)) hh (bd_u rfl (by omega)) b6.1 b6.2
        · rw [gi_ne (by omega)]; exact gi_pt (q := (0, 8)) k6 (bd_u rfl (by omega)) b7.1 b7.2
        · exact gi_pt (q := (0, 1)) k7 (bd_u rfl (by omega)) b8.1 b8.2
      · have q := hc k (by omega)
        refine ⟨?_, ?_, ?_⟩
        · rw [gi_ne (by omega), gi_ne (by omega), gi_ne (fun _ => e)]; exact q.1
        · rw [gi_ne (by omega), gi_ne (fun _ => e), gi_ne (by omega)]; exact q.2.1
        · rw [gi_ne (fun _ => e), gi_ne (by omega), gi_ne (by omega)]; exact q.2.2
noncomputable def TkF_43_15 : List Rng := [(43, 0, 6), (44, 0, 7), (45, 0, 7), (46, 0, 7), (47, 0, 7), (48, 0, 7), (49, 0, 19), (50, 0, 19), (51, 0, 19)]
noncomputable def TkQ_43_15 (h h' : pm_H) (r : Option Value) : Prop := r = none ∧ HH h' ∧ fr_g TkF_43_15 h h' ∧ (∀ k, k < 7 → gi h' 43 k = gi h 15 k) ∧ (∀ k, k < 8 → gi h' 44 k = gi h 16 k ∧ gi h' 45 k = gi h 17 k ∧ gi h' 46 k = gi h 18 k ∧ gi h' 47 k = gi h 19 k ∧ gi h' 48 k = gi h 20 k) ∧ ∀ k, k < 20 → gi h' 49 k = gi h 21 k ∧ gi h' 50 k = gi h 22 k ∧ gi h' 51 k = gi h 23 k
theorem sp_take_43_15 {h : pm_H} {d : Nat} (hh : HH h) : Sp (d + 1) 54 h [.ref 43, .ref 15] (TkQ_43_15 h) := by
  refine Sp_of aiX5_take rfl rfl rfl ?_
  have L0 : pm_get (lv_args 0 [.ref 43, .ref 15]) 0 = some (.ref 43) := rfl
  have L1 : pm_get (lv_args 0 [.ref 43, .ref 15]) 1 = some (.ref 15) := rfl
  generalize lv_args 0 [.ref 43, .ref 15] = lv at L0 L1 ⊢
  have st : ∀ {k : Nat} {q : Int × Int} {g : pm_H}, k < 7 → bd 43 k = some q → bd 15 k = some q → HH g → fr_g [(43, 0, 6)] h g → (∀ i, i < k → gi g 43 i = gi h 15 i) → HH (pt g 43 k (gi h 15 k)) ∧ fr_g [(43, 0, 6)] h (pt g 43 k (gi h 15 k)) ∧ ∀ i, i < k + 1 → gi (pt g 43 k (gi h 15 k)) 43 i = gi h 15 i := by
    intro k q g hk hb hb2 hg hf ha
    have b := (ld_gi hh hb2).2
    refine ⟨HH_pt hg hb b.1 b.2, fr_ptr (l := 0) (u := 6) rfl (by omega) (by omega) hf, fun i hi => ?_⟩
    by_cases e : i = k
    · rw [e]; exact gi_pt hg hb b.1 b.2
    · rw [gi_ne (fun _ => e)]; exact ha i (by omega)
  refine E_al rfl L0 ?_
  refine E_al rfl L1 ?_
  refine E_ogf (q := (0, 8)) (v := gi h 15 0) rfl hh rfl rfl rfl ?_
  refine E_opf (q := (0, 8)) rfl hh rfl rfl ?_
  obtain ⟨a0, b0, c0⟩ := st (k := 0) (q := (0, 8)) (by decide) rfl rfl hh (fr_rf _ _) (fun i hi => absurd hi (Nat.not_lt_zero i))
  refine E_al rfl L0 ?_
  refine E_al rfl L1 ?_
  refine E_ogf (q := (0, 3)) (v := gi h 15 1) rfl a0 rfl rfl (fr_gi b0 (rg_no rfl _)) ?_
  refine E_opf (q := (0, 3)) rfl a0 rfl rfl ?_
  obtain ⟨a1, b1, c1⟩ := st (k := 1) (q := (0, 3)) (by decide) rfl rfl a0 b0 c0
  refine E_al rfl L0 ?_
  refine E_al rfl L1 ?_
  refine E_ogf (q := (0, 10)) (v := gi h 15 2) rfl a1 rfl rfl (fr_gi b1 (rg_no rfl _)) ?_
  refine E_opf (q := (0, 10)) rfl a1 rfl rfl ?_
  obtain ⟨a2, b2, c2⟩ := st (k := 2) (q := (0, 10)) (by decide) rfl rfl a1 b1 c1
  refine E_al rfl L0 ?_
  refine E_al rfl L1 ?_
  refine E_ogf (q := ((-2147483648), 2147483647)) (v := gi h 15 3) rfl a2 rfl rfl (fr_gi b2 (rg_no rfl _)) ?_
  refine E_opf (q := ((-2147483648), 2147483647)) rfl a2 rfl rfl ?_
  obtain ⟨a3, b3, c3⟩ := st (k := 3) (q := ((-2147483648), 2147483647)) (by decide) rfl rfl a2 b2 c2
  refine E_al rfl L0 ?_
  refine E_al rfl L1 ?_
  refine E_ogf (q := (0, 8)) (v := gi h 15 4) rfl a3 rfl rfl (fr_gi b3 (rg_no rfl _)) ?_
  refine E_opf (q := (0, 8)) rfl a3 rfl rfl ?_
  obtain ⟨a4, b4, c4⟩ := st (k := 4) (q := (0, 8)) (by decide) rfl rfl a3 b3 c3
  refine E_al rfl L0 ?_
  refine E_al rfl L1 ?_
  refine E_ogf (q := (0, 8)) (v := gi h 15 5) rfl a4 rfl rfl (fr_gi b4 (rg_no rfl _)) ?_
  refine E_opf (q := (0, 8)) rfl a4 rfl rfl ?_
  obtain ⟨a5, b5, c5⟩ := st (k := 5) (q := (0, 8)) (by decide) rfl rfl a4 b4 c4
  refine E_al rfl L0 ?_
  refine E_al rfl L1 ?_
  refine E_ogf (q := (0, 20)) (v := gi h 15 6) rfl a5 rfl rfl (fr_gi b5 (rg_no rfl _)) ?_
  refine E_opf (q := (0, 20)) rfl a5 rfl rfl ?_
  obtain ⟨a6, b6, c6⟩ := st (k := 6) (q := (0, 20)) (by decide) rfl rfl a5 b5 c5
  generalize (pt (pt (pt (pt (pt (pt (pt h 43 0 (gi h 15 0)) 43 1 (gi h 15 1)) 43 2 (gi h 15 2)) 43 3 (gi h 15 3)) 43 4 (gi h 15 4)) 43 5 (gi h 15 5)) 43 6 (gi h 15 6)) = h6 at a6 b6 c6 ⊢
  refine E_ci 0 rfl (by decide) ?_
  refine E_is rfl (fun lv1 K2 kp => ?_)
  refine tk1_43_15 a6 (fun h7 lv2 hh7 f7 c7 M0 M1 => ?_) 8 (i := 0) lv1 (by omega) a6 (fr_rf _ _) (fun k hk => absurd hk (Nat.not_lt_zero k)) (kp 0 _ (by decide) rfl L0) (kp 1 _ (by decide) rfl L1) K2
  refine E_ci 0 rfl (by decide) ?_
  refine E_is rfl (fun lv3 K3 kp3 => ?_)
  refine tk2_43_15 hh7 (fun h8 lv4 hh8 f8 c8 N0 N1 => ?_) 20 (i := 0) lv3 (by omega) hh7 (fr_rf _ _) (fun k hk => absurd hk (Nat.not_lt_zero k)) (kp3 0 _ (by decide) rfl M0) (kp3 1 _ (by decide) rfl M1) K3
  refine E_ret rfl ⟨rfl, hh8, fr_trans (fr_wk rfl b6) (fr_trans (fr_wk rfl f7) (fr_wk rfl f8)), fun k hk => ?_, fun k hk => ?_, fun k hk => ?_⟩
  · rw [fr_gi f8 (rg_no rfl _), fr_gi f7 (rg_no rfl _)]; exact c6 k hk
  · obtain ⟨q1, q2, q3, q4, q5⟩ := c7 k hk
    refine ⟨?_, ?_, ?_, ?_, ?_⟩
    · rw [fr_gi f8 (rg_no rfl _), q1, fr_gi b6 (rg_no rfl _)]
    · rw [fr_gi f8 (rg_no rfl _), q2, fr_gi b6 (rg_no rfl _)]
    · rw [fr_gi f8 (rg_no rfl _), q3, fr_gi b6 (rg_no rfl _)]
    · rw [fr_gi f8 (rg_no rfl _), q4, fr_gi b6 (rg_no rfl _)]
    · rw [fr_gi f8 (rg_no rfl _), q5, fr_gi b6 (rg_no rfl _)]
  · obtain ⟨q6, q7, q8⟩ := c8 k hk
    refine ⟨?_, ?_, ?_⟩
    · rw [q6, fr_gi f7 (rg_no rfl _), fr_gi b6 (rg_no rfl _)]
    · rw [q7, fr_gi f7 (rg_no rfl _), fr_gi b6 (rg_no rfl _)]
    · rw [q8, fr_gi f7 (rg_no rfl _), fr_gi b6 (rg_no rfl _)]
theorem tk1_15_25 {h0 : pm_H} {d : Nat} {Q : pm_H → Option Value → Prop} (hh0 : HH h0) (K : ∀ (h : pm_H) (lv : List (Nat × Value)), HH h → fr_g [(16, 0, 7), (17, 0, 7), (18, 0, 7), (19, 0, 7), (20, 0, 7)] h0 h → (∀ k, k < 8 → gi h 16 k = gi h0 26 k ∧ gi h 17 k = gi h0 27 k ∧ gi h 18 k = gi h0 28 k ∧ gi h 19 k = gi h0 29 k ∧ gi h 20 k = gi h0 30 k) → pm_get lv 0 = some (.ref 15) → pm_get lv 1 = some (.ref 25) → Ends (pm_at tX5_take) (pm_Rt pm_P d) (130, lv, [], h, 0, 0) Q) (j : Nat) : ∀ {h : pm_H} {i : Nat} (lv : List (Nat × Value)), i + j = 8 → HH h → fr_g [(16, 0, 7), (17, 0, 7), (18, 0, 7), (19, 0, 7), (20, 0, 7)] h0 h → (∀ k, k < i → gi h 16 k = gi h0 26 k ∧ gi h 17 k = gi h0 27 k ∧ gi h 18 k = gi h0 28 k ∧ gi h 19 k = gi h0 29 k ∧ gi h 20 k = gi h0 30 k) → pm_get lv 0 = some (.ref 15) → pm_get lv 1 = some (.ref 25) → pm_get lv 2 = some (.int (nJ i)) → Ends (pm_at tX5_take) (pm_Rt pm_P d) (58, lv, [], h, 0, 0) Q := by
  induction j with
  | zero =>
    intro h i lv hj hh hf hc L0 L1 L2
    refine E_il rfl L2 ?_
    refine E_ci 8 rfl (by decide) ?_
    refine E_icT rfl (decide_eq_true ((nJ_le (by omega) (by omega)).mpr (by omega))) ?_
    exact K h lv hh hf (fun k hk => hc k (by omega)) L0 L1
  | succ j ih =>
    intro h i lv hj hh hf hc L0 L1 L2
    refine E_il rfl L2 ?_
    refine E_ci 8 rfl (by decide) ?_
    refine E_icF rfl (decide_eq_false (fun q => absurd ((nJ_le (by omega) (by omega)).mp q) (by omega))) ?_
    refine E_al rfl L0 ?_
    refine E_ogr (q := 16) rfl hh rfl rfl ?_
    refine E_il rfl L2 ?_
    refine E_al rfl L1 ?_
    refine E_ogr (q := 26) rfl hh rfl rfl ?_
    refine E_il rfl L2 ?_
    refine E_ial (v := gi h0 26 i) rfl hh rfl (by omega) (by decide) (by rw [fr_gi hf (rg_no rfl _)]) ?_
    have b1 := (ld_gi hh0 (a := 26) (k := i) (q := (0, 8)) (bd_u rfl (by omega))).2
    refine E_ias rfl hh rfl (by omega) (by decide) ?_
    have k1 : HH (pt h 16 i (gi h0 26 i)) := HH_pt (q := (0, 8)) hh (bd_u rfl (by omega)) b1.1 b1.2
    refine E_al rfl L0 ?_
    refine E_ogr (q := 17) rfl k1 rfl rfl ?_
    refine E_il rfl L2 ?_
    refine E_al rfl L1 ?_
    refine E_ogr (q := 27) rfl k1 rfl rfl ?_
    refine E_il rfl L2 ?_
    refine E_ial (v := gi h0 27 i) rfl k1 rfl (by omega) (by decide) (by rw [gi_ne (by omega), fr_gi hf (rg_no rfl _)]) ?_
    have b2 := (ld_gi hh0 (a := 27) (k := i) (q := (0, 8)) (bd_u rfl (by omega))).2
    refine E_ias rfl k1 rfl (by omega) (by decide) ?_
    have k2 : HH (pt (pt h 16 i (gi h0 26 i)) 17 i (gi h0 27 i)) := HH_pt (q := (0, 8)) k1 (bd_u rfl (by omega)) b2.1 b2.2
    refine E_al rfl L0 ?_
    refine E_ogr (q := 18) rfl k2 rfl rfl ?_
    refine E_il rfl L2 ?_
    refine E_al rfl L1 ?_
    refine E_ogr (q := 28) rfl k2 rfl rfl ?_
    refine E_il rfl L2 ?_
    refine E_ial (v := gi h0 28 i) rfl k2 rfl (by omega) (by decide) (by rw [gi_ne (by omega), gi_ne (by omega), fr_gi hf (rg_no rfl _)]) ?_
    have b3 := (ld_gi hh0 (a := 28) (k := i) (q := (0, 99)) (bd_u rfl (by omega))).2
    refine E_ias rfl k2 rfl (by omega) (by decide) ?_
    have k3 : HH (pt (pt (pt h 16 i (gi h0 26 i)) 17 i (gi h0 27 i)) 18 i (gi h0 28 i)) := HH_pt (q := (0, 99)) k2 (bd_u rfl (by omega)) b3.1 b3.2
    refine E_al rfl L0 ?_
    refine E_ogr (q := 19) rfl k3 rfl rfl ?_
    refine E_il rfl L2 ?_
    refine E_al rfl L1 ?_
    refine E_ogr (q := 29) rfl k3 rfl rfl ?_
    refine E_il rfl L2 ?_
    refine E_ial (v := gi h0 29 i) rfl k3 rfl (by omega) (by decide) (by rw [gi_ne (by omega), gi_ne (by omega), gi_ne (by omega), fr_gi hf (rg_no rfl _)]) ?_
    have b4 := (ld_gi hh0 (a := 29) (k := i) (q := (0, 9)) (bd_u rfl (by omega))).2
    refine E_ias rfl k3 rfl (by omega) (by decide) ?_
    have k4 : HH (pt (pt (pt (pt h 16 i (gi h0 26 i)) 17 i (gi h0 27 i)) 18 i (gi h0 28 i)) 19 i (gi h0 29 i)) := HH_pt (q := (0, 9)) k3 (bd_u rfl (by omega)) b4.1 b4.2
    refine E_al rfl L0 ?_
    refine E_ogr (q := 20) rfl k4 rfl rfl ?_
    refine E_il rfl L2 ?_
    refine E_al rfl L1 ?_
    refine E_ogr (q := 30) rfl k4 rfl rfl ?_
    refine E_il rfl L2 ?_
    refine E_ial (v := gi h0 30 i) rfl k4 rfl (by omega) (by decide) (by rw [gi_ne (by omega), gi_ne (by omega), gi_ne (by omega), gi_ne (by omega), fr_gi hf (rg_no rfl _)]) ?_
    have b5 := (ld_gi hh0 (a := 30) (k := i) (q := (0, 9)) (bd_u rfl (by omega))).2
    refine E_ias rfl k4 rfl (by omega) (by decide) ?_
    have k5 : HH (pt (pt (pt (pt (pt h 16 i (gi h0 26 i)) 17 i (gi h0 27 i)) 18 i (gi h0 28 i)) 19 i (gi h0 29 i)) 20 i (gi h0 30 i)) := HH_pt (q := (0, 9)) k4 (bd_u rfl (by omega)) b5.1 b5.2
    refine E_inc rfl L2 (nJ_inc _) (fun lv1 K2 kp => ?_)
    refine E_goto rfl ?_
    refine ih lv1 (i := i + 1) (by omega) k5 ?_ (fun k hk => ?_) (kp 0 _ (by decide) rfl L0) (kp 1 _ (by decide) rfl L1) K2
    · exact fr_ptr (l := 0) (u := 7) rfl (by omega) (by omega) (fr_ptr (l := 0) (u := 7) rfl (by omega) (by omega) (fr_ptr (l := 0) (u := 7) rfl (by omega) (by omega) (fr_ptr (l := 0) (u := 7) rfl (by omega) (by omega) (fr_ptr (l := 0) (u := 7) rfl (by omega) (by omega) (hf)))))
    · by_cases e : k = i
      · subst e
        refine ⟨?_, ?_, ?_, ?_, ?_⟩
        · rw [gi_ne (by omega), gi_ne (by omega), gi_ne (by omega), gi_ne (by omega)]; exact gi_pt (q := (0, 8)) hh (bd_u rfl (by omega)) b1.1 b1.2
        · rw [gi_ne (by omega), gi_ne (by omega), gi_ne (by omega)]; exact gi_pt (q := (0, 8)) k1 (bd_u rfl (by omega)) b2.1 b2.2
        · rw [gi_ne (by omega), gi_ne (by omega)]; exact gi_pt (q := (0, 99)) k2 (bd_u rfl (by omega)) b3.1 b3.2
        · rw [gi_ne (by omega)]; exact gi_pt (q := (0, 9)) k3 (bd_u rfl (by omega)) b4.1 b4.2
        · exact gi_pt (q := (0, 9)) k4 (bd_u rfl (by omega)) b5.1 b5.2
      · have q := hc k (by omega)
        refine ⟨?_, ?_, ?_, ?_, ?_⟩
        · rw [gi_ne (by omega), gi_ne (by omega), gi_ne (by omega), gi_ne (by omega), gi_ne (fun _ => e)]; exact q.1
        · rw [gi_ne (by omega), gi_ne (by omega), gi_ne (by omega), gi_ne (fun _ => e), gi_ne (by omega)]; exact q.2.1
        · rw [gi_ne (by omega), gi_ne (by omega), gi_ne (fun _ => e), gi_ne (by omega), gi_ne (by omega)]; exact q.2.2.1
        · rw [gi_ne (by omega), gi_ne (fun _ => e), gi_ne (by omega), gi_ne (by omega), gi_ne (by omega)]; exact q.2.2.2.1
        · rw [gi_ne (fun _ => e), gi_ne (by omega), gi_ne (by omega), gi_ne (by omega), gi_ne (by omega)]; exact q.2.2.2.2
theorem tk2_15_25 {h0 : pm_H} {d : Nat} {Q : pm_H → Option Value → Prop} (hh0 : HH h0) (K : ∀ (h : pm_H) (lv : List (Nat × Value)), HH h → fr_g [(21, 0, 19), (22, 0, 19), (23, 0, 19)] h0 h → (∀ k, k < 20 → gi h 21 k = gi h0 31 k ∧ gi h 22 k = gi h0 32 k ∧ gi h 23 k = gi h0 33 k) → pm_get lv 0 = some (.ref 15) → pm_get lv 1 = some (.ref 25) → Ends (pm_at tX5_take) (pm_Rt pm_P d) (180, lv, [], h, 0, 0) Q) (j : Nat) : ∀ {h : pm_H} {i : Nat} (lv : List (Nat × Value)), i + j = 20 → HH h → fr_g [(21, 0, 19), (22, 0, 19), (23, 0, 19)] h0 h → (∀ k, k < i → gi h 21 k = gi h0 31 k ∧ gi h 22 k = gi h0 32 k ∧ gi h 23 k = gi h0 33 k) → pm_get lv 0 = some (.ref 15) → pm_get lv 1 = some (.ref 25) → pm_get lv 2 = some (.int (nJ i)) → Ends (pm_at tX5_take) (pm_Rt pm_P d) (132, lv, [], h, 0, 0) Q := by
  induction j with
  | zero =>
    intro h i lv hj hh hf hc L0 L1 L2
    refine E_il rfl L2 ?_
    refine E_ci 20 rfl (by decide) ?_
    refine E_icT rfl (decide_eq_true ((nJ_le (by omega) (by omega)).mpr (by omega))) ?_
    exact K h lv hh hf (fun k hk => hc k (by omega)) L0 L1
  | succ j ih =>
    intro h i lv hj hh hf hc L0 L1 L2
    refine E_il rfl L2 ?_
    refine E_ci 20 rfl (by decide) ?_
    refine E_icF rfl (decide_eq_false (fun q => absurd ((nJ_le (by omega) (by omega)).mp q) (by omega))) ?_
    refine E_al rfl L0 ?_
    refine E_ogr (q := 21) rfl hh rfl rfl ?_
    refine E_il rfl L2 ?_
    refine E_al rfl L1 ?_
    refine E_ogr (q := 31) rfl hh rfl rfl ?_
    refine E_il rfl L2 ?_
    refine E_ial (v := gi h0 31 i) rfl hh rfl (by omega) (by decide) (by rw [fr_gi hf (rg_no rfl _)]) ?_
    have b6 := (ld_gi hh0 (a := 31) (k := i) (q := (0, 7)) (bd_u rfl (by omega))).2
    refine E_ias rfl hh rfl (by omega) (by decide) ?_
    have k6 : HH (pt h 21 i (gi h0 31 i)) := HH_pt (q := (0, 7)) hh (bd_u rfl (by omega)) b6.1 b6.2
    refine E_al rfl L0 ?_
    refine E_ogr (q := 22) rfl k6 rfl rfl ?_
    refine E_il rfl L2 ?_
    refine E_al rfl L1 ?_
    refine E_ogr (q := 32) rfl k6 rfl rfl ?_
    refine E_il rfl L2 ?_
    refine E_ial (v := gi h0 32 i) rfl k6 rfl (by omega) (by decide) (by rw [gi_ne (by omega), fr_gi hf (rg_no rfl _)]) ?_
    have b7 := (ld_gi hh0 (a := 32) (k := i) (q := (0, 8)) (bd_u rfl (by omega))).2
    refine E_ias rfl k6 rfl (by omega) (by decide) ?_
    have k7 : HH (pt (pt h 21 i (gi h0 31 i)) 22 i (gi h0 32 i)) := HH_pt (q := (0, 8)) k6 (bd_u rfl (by omega)) b7.1 b7.2
    refine E_al rfl L0 ?_
    refine E_ogr (q := 23) rfl k7 rfl rfl ?_
    refine E_il rfl L2 ?_
    refine E_al rfl L1 ?_
    refine E_ogr (q := 33) rfl k7 rfl rfl ?_
    refine E_il rfl L2 ?_
    refine E_zalB (v := gi h0 33 i) rfl k7 rfl (by omega) (by decide) (by rw [gi_ne (by omega), gi_ne (by omega), fr_gi hf (rg_no rfl _)]) ?_
    have b8 := (ld_gi hh0 (a := 33) (k := i) (q := (0, 1)) (bd_u rfl (by omega))).2
    refine E_zasB rfl k7 rfl (by omega) (by decide) (nar_z b8.1 b8.2) ?_
    have k8 : HH (pt (pt (pt h 21 i (gi h0 31 i)) 22 i (gi h0 32 i)) 23 i (gi h0 33 i)) := HH_pt (q := (0, 1)) k7 (bd_u rfl (by omega)) b8.1 b8.2
    refine E_inc rfl L2 (nJ_inc _) (fun lv1 K2 kp => ?_)
    refine E_goto rfl ?_
    refine ih lv1 (i := i + 1) (by omega) k8 ?_ (fun k hk => ?_) (kp 0 _ (by decide) rfl L0) (kp 1 _ (by decide) rfl L1) K2
    · exact fr_ptr (l := 0) (u := 19) rfl (by omega) (by omega) (fr_ptr (l := 0) (u := 19) rfl (by omega) (by omega) (fr_ptr (l := 0) (u := 19) rfl (by omega) (by omega) (hf)))
    · by_cases e : k = i
      · subst e
        refine ⟨?_, ?_, ?_⟩
        · rw [gi_ne (by omega), gi_ne (by omega)]; exact gi_pt (q := (0, 7)) hh (bd_u rfl (by omega)) b6.1 b6.2
        · rw [gi_ne (by omega)]; exact gi_pt (q := (0, 8)) k6 (bd_u rfl (by omega)) b7.1 b7.2
        · exact gi_pt (q := (0, 1)) k7 (bd_u rfl (by omega)) b8.1 b8.2
      · have q := hc k (by omega)
        refine ⟨?_, ?_, ?_⟩
        · rw [gi_ne (by omega), gi_ne (by omega), gi_ne (fun _ => e)]; exact q.1
        · rw [gi_ne (by omega), gi_ne (fun _ => e), gi_ne (by omega)]; exact q.2.1
        · rw [gi_ne (fun _ => e), gi_ne (by omega), gi_ne (by omega)]; exact q.2.2
noncomputable def TkF_15_25 : List Rng := [(15, 0, 6), (16, 0, 7), (17, 0, 7), (18, 0, 7), (19, 0, 7), (20, 0, 7), (21, 0, 19), (22, 0, 19), (23, 0, 19)]
noncomputable def TkQ_15_25 (h h' : pm_H) (r : Option Value) : Prop := r = none ∧ HH h' ∧ fr_g TkF_15_25 h h' ∧ (∀ k, k < 7 → gi h' 15 k = gi h 25 k) ∧ (∀ k, k < 8 → gi h' 16 k = gi h 26 k ∧ gi h' 17 k = gi h 27 k ∧ gi h' 18 k = gi h 28 k ∧ gi h' 19 k = gi h 29 k ∧ gi h' 20 k = gi h 30 k) ∧ ∀ k, k < 20 → gi h' 21 k = gi h 31 k ∧ gi h' 22 k = gi h 32 k ∧ gi h' 23 k = gi h 33 k
theorem sp_take_15_25 {h : pm_H} {d : Nat} (hh : HH h) : Sp (d + 1) 54 h [.ref 15, .ref 25] (TkQ_15_25 h) := by
  refine Sp_of aiX5_take rfl rfl rfl ?_
  have L0 : pm_get (lv_args 0 [.ref 15, .ref 25]) 0 = some (.ref 15) := rfl
  have L1 : pm_get (lv_args 0 [.ref 15, .ref 25]) 1 = some (.ref 25) := rfl
  generalize lv_args 0 [.ref 15, .ref 25] = lv at L0 L1 ⊢
  have st : ∀ {k : Nat} {q : Int × Int} {g : pm_H}, k < 7 → bd 15 k = some q → bd 25 k = some q → HH g → fr_g [(15, 0, 6)] h g → (∀ i, i < k → gi g 15 i = gi h 25 i) → HH (pt g 15 k (gi h 25 k)) ∧ fr_g [(15, 0, 6)] h (pt g 15 k (gi h 25 k)) ∧ ∀ i, i < k + 1 → gi (pt g 15 k (gi h 25 k)) 15 i = gi h 25 i := by
    intro k q g hk hb hb2 hg hf ha
    have b := (ld_gi hh hb2).2
    refine ⟨HH_pt hg hb b.1 b.2, fr_ptr (l := 0) (u := 6) rfl (by omega) (by omega) hf, fun i hi => ?_⟩
    by_cases e : i = k
    · rw [e]; exact gi_pt hg hb b.1 b.2
    · rw [gi_ne (fun _ => e)]; exact ha i (by omega)
  refine E_al rfl L0 ?_
  refine E_al rfl L1 ?_
  refine E_ogf (q := (0, 8)) (v := gi h 25 0) rfl hh rfl rfl rfl ?_
  refine E_opf (q := (0, 8)) rfl hh rfl rfl ?_
  obtain ⟨a0, b0, c0⟩ := st (k := 0) (q := (0, 8)) (by decide) rfl rfl hh (fr_rf _ _) (fun i hi => absurd hi (Nat.not_lt_zero i))
  refine E_al rfl L0 ?_
  refine E_al rfl L1 ?_
  refine E_ogf (q := (0, 3)) (v := gi h 25 1) rfl a0 rfl rfl (fr_gi b0 (rg_no rfl _)) ?_
  refine E_opf (q := (0, 3)) rfl a0 rfl rfl ?_
  obtain ⟨a1, b1, c1⟩ := st (k := 1) (q := (0, 3)) (by decide) rfl rfl a0 b0 c0
  refine E_al rfl L0 ?_
  refine E_al rfl L1 ?_
  refine E_ogf (q := (0, 10)) (v := gi h 25 2) rfl a1 rfl rfl (fr_gi b1 (rg_no rfl _)) ?_
  refine E_opf (q := (0, 10)) rfl a1 rfl rfl ?_
  obtain ⟨a2, b2, c2⟩ := st (k := 2) (q := (0, 10)) (by decide) rfl rfl a1 b1 c1
  refine E_al rfl L0 ?_
  refine E_al rfl L1 ?_
  refine E_ogf (q := ((-2147483648), 2147483647)) (v := gi h 25 3) rfl a2 rfl rfl (fr_gi b2 (rg_no rfl _)) ?_
  refine E_opf (q := ((-2147483648), 2147483647)) rfl a2 rfl rfl ?_
  obtain ⟨a3, b3, c3⟩ := st (k := 3) (q := ((-2147483648), 2147483647)) (by decide) rfl rfl a2 b2 c2
  refine E_al rfl L0 ?_
  refine E_al rfl L1 ?_
  refine E_ogf (q := (0, 8)) (v := gi h 25 4) rfl a3 rfl rfl (fr_gi b3 (rg_no rfl _)) ?_
  refine E_opf (q := (0, 8)) rfl a3 rfl rfl ?_
  obtain ⟨a4, b4, c4⟩ := st (k := 4) (q := (0, 8)) (by decide) rfl rfl a3 b3 c3
  refine E_al rfl L0 ?_
  refine E_al rfl L1 ?_
  refine E_ogf (q := (0, 8)) (v := gi h 25 5) rfl a4 rfl rfl (fr_gi b4 (rg_no rfl _)) ?_
  refine E_opf (q := (0, 8)) rfl a4 rfl rfl ?_
  obtain ⟨a5, b5, c5⟩ := st (k := 5) (q := (0, 8)) (by decide) rfl rfl a4 b4 c4
  refine E_al rfl L0 ?_
  refine E_al rfl L1 ?_
  refine E_ogf (q := (0, 20)) (v := gi h 25 6) rfl a5 rfl rfl (fr_gi b5 (rg_no rfl _)) ?_
  refine E_opf (q := (0, 20)) rfl a5 rfl rfl ?_
  obtain ⟨a6, b6, c6⟩ := st (k := 6) (q := (0, 20)) (by decide) rfl rfl a5 b5 c5
  generalize (pt (pt (pt (pt (pt (pt (pt h 15 0 (gi h 25 0)) 15 1 (gi h 25 1)) 15 2 (gi h 25 2)) 15 3 (gi h 25 3)) 15 4 (gi h 25 4)) 15 5 (gi h 25 5)) 15 6 (gi h 25 6)) = h6 at a6 b6 c6 ⊢
  refine E_ci 0 rfl (by decide) ?_
  refine E_is rfl (fun lv1 K2 kp => ?_)
  refine tk1_15_25 a6 (fun h7 lv2 hh7 f7 c7 M0 M1 => ?_) 8 (i := 0) lv1 (by omega) a6 (fr_rf _ _) (fun k hk => absurd hk (Nat.not_lt_zero k)) (kp 0 _ (by decide) rfl L0) (kp 1 _ (by decide) rfl L1) K2
  refine E_ci 0 rfl (by decide) ?_
  refine E_is rfl (fun lv3 K3 kp3 => ?_)
  refine tk2_15_25 hh7 (fun h8 lv4 hh8 f8 c8 N0 N1 => ?_) 20 (i := 0) lv3 (by omega) hh7 (fr_rf _ _) (fun k hk => absurd hk (Nat.not_lt_zero k)) (kp3 0 _ (by decide) rfl M0) (kp3 1 _ (by decide) rfl M1) K3
  refine E_ret rfl ⟨rfl, hh8, fr_trans (fr_wk rfl b6) (fr_trans (fr_wk rfl f7) (fr_wk rfl f8)), fun k hk => ?_, fun k hk => ?_, fun k hk => ?_⟩
  · rw [fr_gi f8 (rg_no rfl _), fr_gi f7 (rg_no rfl _)]; exact c6 k hk
  · obtain ⟨q1, q2, q3, q4, q5⟩ := c7 k hk
    refine ⟨?_, ?_, ?_, ?_, ?_⟩
    · rw [fr_gi f8 (rg_no rfl _), q1, fr_gi b6 (rg_no rfl _)]
    · rw [fr_gi f8 (rg_no rfl _), q2, fr_gi b6 (rg_no rfl _)]
    · rw [fr_gi f8 (rg_no rfl _), q3, fr_gi b6 (rg_no rfl _)]
    · rw [fr_gi f8 (rg_no rfl _), q4, fr_gi b6 (rg_no rfl _)]
    · rw [fr_gi f8 (rg_no rfl _), q5, fr_gi b6 (rg_no rfl _)]
  · obtain ⟨q6, q7, q8⟩ := c8 k hk
    refine ⟨?_, ?_, ?_⟩
    · rw [q6, fr_gi f7 (rg_no rfl _), fr_gi b6 (rg_no rfl _)]
    · rw [q7, fr_gi f7 (rg_no rfl _), fr_gi b6 (rg_no rfl _)]
    · rw [q8, fr_gi f7 (rg_no rfl _), fr_gi b6 (rg_no rfl _)]
theorem tk1_15_34 {h0 : pm_H} {d : Nat} {Q : pm_H → Option Value → Prop} (hh0 : HH h0) (K : ∀ (h : pm_H) (lv : List (Nat × Value)), HH h → fr_g [(16, 0, 7), (17, 0, 7), (18, 0, 7), (19, 0, 7), (20, 0, 7)] h0 h → (∀ k, k < 8 → gi h 16 k = gi h0 35 k ∧ gi h 17 k = gi h0 36 k ∧ gi h 18 k = gi h0 37 k ∧ gi h 19 k = gi h0 38 k ∧ gi h 20 k = gi h0 39 k) → pm_get lv 0 = some (.ref 15) → pm_get lv 1 = some (.ref 34) → Ends (pm_at tX5_take) (pm_Rt pm_P d) (130, lv, [], h, 0, 0) Q) (j : Nat) : ∀ {h : pm_H} {i : Nat} (lv : List (Nat × Value)), i + j = 8 → HH h → fr_g [(16, 0, 7), (17, 0, 7), (18, 0, 7), (19, 0, 7), (20, 0, 7)] h0 h → (∀ k, k < i → gi h 16 k = gi h0 35 k ∧ gi h 17 k = gi h0 36 k ∧ gi h 18 k = gi h0 37 k ∧ gi h 19 k = gi h0 38 k ∧ gi h 20 k = gi h0 39 k) → pm_get lv 0 = some (.ref 15) → pm_get lv 1 = some (.ref 34) → pm_get lv 2 = some (.int (nJ i)) → Ends (pm_at tX5_take) (pm_Rt pm_P d) (58, lv, [], h, 0, 0) Q := by
  induction j with
  | zero =>
    intro h i lv hj hh hf hc L0 L1 L2
    refine E_il rfl L2 ?_
    refine E_ci 8 rfl (by decide) ?_
    refine E_icT rfl (decide_eq_true ((nJ_le (by omega) (by omega)).mpr (by omega))) ?_
    exact K h lv hh hf (fun k hk => hc k (by omega)) L0 L1
  | succ j ih =>
    intro h i lv hj hh hf hc L0 L1 L2
    refine E_il rfl L2 ?_
    refine E_ci 8 rfl (by decide) ?_
    refine E_icF rfl (decide_eq_false (fun q => absurd ((nJ_le (by omega) (by omega)).mp q) (by omega))) ?_
    refine E_al rfl L0 ?_
    refine E_ogr (q := 16) rfl hh rfl rfl ?_
    refine E_il rfl L2 ?_
    refine E_al rfl L1 ?_
    refine E_ogr (q := 35) rfl hh rfl rfl ?_
    refine E_il rfl L2 ?_
    refine E_ial (v := gi h0 35 i) rfl hh rfl (by omega) (by decide) (by rw [fr_gi hf (rg_no rfl _)]) ?_
    have b1 := (ld_gi hh0 (a := 35) (k := i) (q := (0, 8)) (bd_u rfl (by omega))).2
    refine E_ias rfl hh rfl (by omega) (by decide) ?_
    have k1 : HH (pt h 16 i (gi h0 35 i)) := HH_pt (q := (0, 8)) hh (bd_u rfl (by omega)) b1.1 b1.2
    refine E_al rfl L0 ?_
    refine E_ogr (q := 17) rfl k1 rfl rfl ?_
    refine E_il rfl L2 ?_
    refine E_al rfl L1 ?_
    refine E_ogr (q := 36) rfl k1 rfl rfl ?_
    refine E_il rfl L2 ?_
    refine E_ial (v := gi h0 36 i) rfl k1 rfl (by omega) (by decide) (by rw [gi_ne (by omega), fr_gi hf (rg_no rfl _)]) ?_
    have b2 := (ld_gi hh0 (a := 36) (k := i) (q := (0, 8)) (bd_u rfl (by omega))).2
    refine E_ias rfl k1 rfl (by omega) (by decide) ?_
    have k2 : HH (pt (pt h 16 i (gi h0 35 i)) 17 i (gi h0 36 i)) := HH_pt (q := (0, 8)) k1 (bd_u rfl (by omega)) b2.1 b2.2
    refine E_al rfl L0 ?_
    refine E_ogr (q := 18) rfl k2 rfl rfl ?_
    refine E_il rfl L2 ?_
    refine E_al rfl L1 ?_
    refine E_ogr (q := 37) rfl k2 rfl rfl ?_
    refine E_il rfl L2 ?_
    refine E_ial (v := gi h0 37 i) rfl k2 rfl (by omega) (by decide) (by rw [gi_ne (by omega), gi_ne (by omega), fr_gi hf (rg_no rfl _)]) ?_
    have b3 := (ld_gi hh0 (a := 37) (k := i) (q := (0, 99)) (bd_u rfl (by omega))).2
    refine E_ias rfl k2 rfl (by omega) (by decide) ?_
    have k3 : HH (pt (pt (pt h 16 i (gi h0 35 i)) 17 i (gi h0 36 i)) 18 i (gi h0 37 i)) := HH_pt (q := (0, 99)) k2 (bd_u rfl (by omega)) b3.1 b3.2
    refine E_al rfl L0 ?_
    refine E_ogr (q := 19) rfl k3 rfl rfl ?_
    refine E_il rfl L2 ?_
    refine E_al rfl L1 ?_
    refine E_ogr (q := 38) rfl k3 rfl rfl ?_
    refine E_il rfl L2 ?_
    refine E_ial (v := gi h0 38 i) rfl k3 rfl (by omega) (by decide) (by rw [gi_ne (by omega), gi_ne (by omega), gi_ne (by omega), fr_gi hf (rg_no rfl _)]) ?_
    have b4 := (ld_gi hh0 (a := 38) (k := i) (q := (0, 9)) (bd_u rfl (by omega))).2
    refine E_ias rfl k3 rfl (by omega) (by decide) ?_
    have k4 : HH (pt (pt (pt (pt h 16 i (gi h0 35 i)) 17 i (gi h0 36 i)) 18 i (gi h0 37 i)) 19 i (gi h0 38 i)) := HH_pt (q := (0, 9)) k3 (bd_u rfl (by omega)) b4.1 b4.2
    refine E_al rfl L0 ?_
    refine E_ogr (q := 20) rfl k4 rfl rfl ?_
    refine E_il rfl L2 ?_
    refine E_al rfl L1 ?_
    refine E_ogr (q := 39) rfl k4 rfl rfl ?_
    refine E_il rfl L2 ?_
    refine E_ial (v := gi h0 39 i) rfl k4 rfl (by omega) (by decide) (by rw [gi_ne (by omega), gi_ne (by omega), gi_ne (by omega), gi_ne (by omega), fr_gi hf (rg_no rfl _)]) ?_
    have b5 := (ld_gi hh0 (a := 39) (k := i) (q := (0, 9)) (bd_u rfl (by omega))).2
    refine E_ias rfl k4 rfl (by omega) (by decide) ?_
    have k5 : HH (pt (pt (pt (pt (pt h 16 i (gi h0 35 i)) 17 i (gi h0 36 i)) 18 i (gi h0 37 i)) 19 i (gi h0 38 i)) 20 i (gi h0 39 i)) := HH_pt (q := (0, 9)) k4 (bd_u rfl (by omega)) b5.1 b5.2
    refine E_inc rfl L2 (nJ_inc _) (fun lv1 K2 kp => ?_)
    refine E_goto rfl ?_
    refine ih lv1 (i := i + 1) (by omega) k5 ?_ (fun k hk => ?_) (kp 0 _ (by decide) rfl L0) (kp 1 _ (by decide) rfl L1) K2
    · exact fr_ptr (l := 0) (u := 7) rfl (by omega) (by omega) (fr_ptr (l := 0) (u := 7) rfl (by omega) (by omega) (fr_ptr (l := 0) (u := 7) rfl (by omega) (by omega) (fr_ptr (l := 0) (u := 7) rfl (by omega) (by omega) (fr_ptr (l := 0) (u := 7) rfl (by omega) (by omega) (hf)))))
    · by_cases e : k = i
      · subst e
        refine ⟨?_, ?_, ?_, ?_, ?_⟩
        · rw [gi_ne (by omega), gi_ne (by omega), gi_ne (by omega), gi_ne (by omega)]; exact gi_pt (q := (0, 8)) hh (bd_u rfl (by omega)) b1.1 b1.2
        · rw [gi_ne (by omega), gi_ne (by omega), gi_ne (by omega)]; exact gi_pt (q := (0, 8)) k1 (bd_u rfl (by omega)) b2.1 b2.2
        · rw [gi_ne (by omega), gi_ne (by omega)]; exact gi_pt (q := (0, 99)) k2 (bd_u rfl (by omega)) b3.1 b3.2
        · rw [gi_ne (by omega)]; exact gi_pt (q := (0, 9)) k3 (bd_u rfl (by omega)) b4.1 b4.2
        · exact gi_pt (q := (0, 9)) k4 (bd_u rfl (by omega)) b5.1 b5.2
      · have q := hc k (by omega)
        refine ⟨?_, ?_, ?_, ?_, ?_⟩
        · rw [gi_ne (by omega), gi_ne (by omega), gi_ne (by omega), gi_ne (by omega), gi_ne (fun _ => e)]; exact q.1
        · rw [gi_ne (by omega), gi_ne (by omega), gi_ne (by omega), gi_ne (fun _ => e), gi_ne (by omega)]; exact q.2.1
        · rw [gi_ne (by omega), gi_ne (by omega), gi_ne (fun _ => e), gi_ne (by omega), gi_ne (by omega)]; exact q.2.2.1
        · rw [gi_ne (by omega), gi_ne (fun _ => e), gi_ne (by omega), gi_ne (by omega), gi_ne (by omega)]; exact q.2.2.2.1
        · rw [gi_ne (fun _ => e), gi_ne (by omega), gi_ne (by omega), gi_ne (by omega), gi_ne (by omega)]; exact q.2.2.2.2
theorem tk2_15_34 {h0 : pm_H} {d : Nat} {Q : pm_H → Option Value → Prop} (hh0 : HH h0) (K : ∀ (h : pm_H) (lv : List (Nat × Value)), HH h → fr_g [(21, 0, 19), (22, 0, 19), (23, 0, 19)] h0 h → (∀ k, k < 20 → gi h 21 k = gi h0 40 k ∧ gi h 22 k = gi h0 41 k ∧ gi h 23 k = gi h0 42 k) → pm_get lv 0 = some (.ref 15) → pm_get lv 1 = some (.ref 34) → Ends (pm_at tX5_take) (pm_Rt pm_P d) (180, lv, [], h, 0, 0) Q) (j : Nat) : ∀ {h : pm_H} {i : Nat} (lv : List (Nat × Value)), i + j = 20 → HH h → fr_g [(21, 0, 19), (22, 0, 19), (23, 0, 19)] h0 h → (∀ k, k < i → gi h 21 k = gi h0 40 k ∧ gi h 22 k = gi h0 41 k ∧ gi h 23 k = gi h0 42 k) → pm_get lv 0 = some (.ref 15) → pm_get lv 1 = some (.ref 34) → pm_get lv 2 = some (.int (nJ i)) → Ends (pm_at tX5_take) (pm_Rt pm_P d) (132, lv, [], h, 0, 0) Q := by
  induction j with
  | zero =>
    intro h i lv hj hh hf hc L0 L1 L2
    refine E_il rfl L2 ?_
    refine E_ci 20 rfl (by decide) ?_
    refine E_icT rfl (decide_eq_true ((nJ_le (by omega) (by omega)).mpr (by omega))) ?_
    exact K h lv hh hf (fun k hk => hc k (by omega)) L0 L1
  | succ j ih =>
    intro h i lv hj hh hf hc L0 L1 L2
    refine E_il rfl L2 ?_
    refine E_ci 20 rfl (by decide) ?_
    refine E_icF rfl (decide_eq_false (fun q => absurd ((nJ_le (by omega) (by omega)).mp q) (by omega))) ?_
    refine E_al rfl L0 ?_
    refine E_ogr (q := 21) rfl hh rfl rfl ?_
    refine E_il rfl L2 ?_
    refine E_al rfl L1 ?_
    refine E_ogr (q := 40) rfl hh rfl rfl ?_
    refine E_il rfl L2 ?_
    refine E_ial (v := gi h0 40 i) rfl hh rfl (by omega) (by decide) (by rw [fr_gi hf (rg_no rfl _)]) ?_
    have b6 := (ld_gi hh0 (a := 40) (k := i) (q := (0, 7)) (bd_u rfl (by omega))).2
    refine E_ias rfl hh rfl (by omega) (by decide) ?_
    have k6 : HH (pt h 21 i (gi h0 40 i)) := HH_pt (q := (0, 7)) hh (bd_u rfl (by omega)) b6.1 b6.2
    refine E_al rfl L0 ?_
    refine E_ogr (q := 22) rfl k6 rfl rfl ?_
    refine E_il rfl L2 ?_
    refine E_al rfl L1 ?_
    refine E_ogr (q := 41) rfl k6 rfl rfl ?_
    refine E_il rfl L2 ?_
    refine E_ial (v := gi h0 41 i) rfl k6 rfl (by omega) (by decide) (by rw [gi_ne (by omega), fr_gi hf (rg_no rfl _)]) ?_
    have b7 := (ld_gi hh0 (a := 41) (k := i) (q := (0, 8)) (bd_u rfl (by omega))).2
    refine E_ias rfl k6 rfl (by omega) (by decide) ?_
    have k7 : HH (pt (pt h 21 i (gi h0 40 i)) 22 i (gi h0 41 i)) := HH_pt (q := (0, 8)) k6 (bd_u rfl (by omega)) b7.1 b7.2
    refine E_al rfl L0 ?_
    refine E_ogr (q := 23) rfl k7 rfl rfl ?_
    refine E_il rfl L2 ?_
    refine E_al rfl L1 ?_
    refine E_ogr (q := 42) rfl k7 rfl rfl ?_
    refine E_il rfl L2 ?_
    refine E_zalB (v := gi h0 42 i) rfl k7 rfl (by omega) (by decide) (by rw [gi_ne (by omega), gi_ne (by omega), fr_gi hf (rg_no rfl _)]) ?_
    have b8 := (ld_gi hh0 (a := 42) (k := i) (q := (0, 1)) (bd_u rfl (by omega))).2
    refine E_zasB rfl k7 rfl (by omega) (by decide) (nar_z b8.1 b8.2) ?_
    have k8 : HH (pt (pt (pt h 21 i (gi h0 40 i)) 22 i (gi h0 41 i)) 23 i (gi h0 42 i)) := HH_pt (q := (0, 1)) k7 (bd_u rfl (by omega)) b8.1 b8.2
    refine E_inc rfl L2 (nJ_inc _) (fun lv1 K2 kp => ?_)
    refine E_goto rfl ?_
    refine ih lv1 (i := i + 1) (by omega) k8 ?_ (fun k hk => ?_) (kp 0 _ (by decide) rfl L0) (kp 1 _ (by decide) rfl L1) K2
    · exact fr_ptr (l := 0) (u := 19) rfl (by omega) (by omega) (fr_ptr (l := 0) (u := 19) rfl (by omega) (by omega) (fr_ptr (l := 0) (u := 19) rfl (by omega) (by omega) (hf)))
    · by_cases e : k = i
      · subst e
        refine ⟨?_, ?_, ?_⟩
        · rw [gi_ne (by omega), gi_ne (by omega)]; exact gi_pt (q := (0, 7)) hh (bd_u rfl (by omega)) b6.1 b6.2
        · rw [gi_ne (by omega)]; exact gi_pt (q := (0, 8)) k6 (bd_u rfl (by omega)) b7.1 b7.2
        · exact gi_pt (q := (0, 1)) k7 (bd_u rfl (by omega)) b8.1 b8.2
      · have q := hc k (by omega)
        refine ⟨?_, ?_, ?_⟩
        · rw [gi_ne (by omega), gi_ne (by omega), gi_ne (fun _ => e)]; exact q.1
        · rw [gi_ne (by omega), gi_ne (fun _ => e), gi_ne (by omega)]; exact q.2.1
        · rw [gi_ne (fun _ => e), gi_ne (by omega), gi_ne (by omega)]; exact q.2.2
noncomputable def TkF_15_34 : List Rng := [(15, 0, 6), (16, 0, 7), (17, 0, 7), (18, 0, 7), (19, 0, 7), (20, 0, 7), (21, 0, 19), (22, 0, 19), (23, 0, 19)]
noncomputable def TkQ_15_34 (h h' : pm_H) (r : Option Value) : Prop := r = none ∧ HH h' ∧ fr_g TkF_15_34 h h' ∧ (∀ k, k < 7 → gi h' 15 k = gi h 34 k) ∧ (∀ k, k < 8 → gi h' 16 k = gi h 35 k ∧ gi h' 17 k = gi h 36 k ∧ gi h' 18 k = gi h 37 k ∧ gi h' 19 k = gi h 38 k ∧ gi h' 20 k = gi h 39 k) ∧ ∀ k, k < 20 → gi h' 21 k = gi h 40 k ∧ gi h' 22 k = gi h 41 k ∧ gi h' 23 k = gi h 42 k
theorem sp_take_15_34 {h : pm_H} {d : Nat} (hh : HH h) : Sp (d + 1) 54 h [.ref 15, .ref 34] (TkQ_15_34 h) := by
  refine Sp_of aiX5_take rfl rfl rfl ?_
  have L0 : pm_get (lv_args 0 [.ref 15, .ref 34]) 0 = some (.ref 15) := rfl
  have L1 : pm_get (lv_args 0 [.ref 15, .ref 34]) 1 = some (.ref 34) := rfl
  generalize lv_args 0 [.ref 15, .ref 34] = lv at L0 L1 ⊢
  have st : ∀ {k : Nat} {q : Int × Int} {g : pm_H}, k < 7 → bd 15 k = some q → bd 34 k = some q → HH g → fr_g [(15, 0, 6)] h g → (∀ i, i < k → gi g 15 i = gi h 34 i) → HH (pt g 15 k (gi h 34 k)) ∧ fr_g [(15, 0, 6)] h (pt g 15 k (gi h 34 k)) ∧ ∀ i, i < k + 1 → gi (pt g 15 k (gi h 34 k)) 15 i = gi h 34 i := by
    intro k q g hk hb hb2 hg hf ha
    have b := (ld_gi hh hb2).2
    refine ⟨HH_pt hg hb b.1 b.2, fr_ptr (l := 0) (u := 6) rfl (by omega) (by omega) hf, fun i hi => ?_⟩
    by_cases e : i = k
    · rw [e]; exact gi_pt hg hb b.1 b.2
    · rw [gi_ne (fun _ => e)]; exact ha i (by omega)
  refine E_al rfl L0 ?_
  refine E_al rfl L1 ?_
  refine E_ogf (q := (0, 8)) (v := gi h 34 0) rfl hh rfl rfl rfl ?_
  refine E_opf (q := (0, 8)) rfl hh rfl rfl ?_
  obtain ⟨a0, b0, c0⟩ := st (k := 0) (q := (0, 8)) (by decide) rfl rfl hh (fr_rf _ _) (fun i hi => absurd hi (Nat.not_lt_zero i))
  refine E_al rfl L0 ?_
  refine E_al rfl L1 ?_
  refine E_ogf (q := (0, 3)) (v := gi h 34 1) rfl a0 rfl rfl (fr_gi b0 (rg_no rfl _)) ?_
  refine E_opf (q := (0, 3)) rfl a0 rfl rfl ?_
  obtain ⟨a1, b1, c1⟩ := st (k := 1) (q := (0, 3)) (by decide) rfl rfl a0 b0 c0
  refine E_al rfl L0 ?_
  refine E_al rfl L1 ?_
  refine E_ogf (q := (0, 10)) (v := gi h 34 2) rfl a1 rfl rfl (fr_gi b1 (rg_no rfl _)) ?_
  refine E_opf (q := (0, 10)) rfl a1 rfl rfl ?_
  obtain ⟨a2, b2, c2⟩ := st (k := 2) (q := (0, 10)) (by decide) rfl rfl a1 b1 c1
  refine E_al rfl L0 ?_
  refine E_al rfl L1 ?_
  refine E_ogf (q := ((-2147483648), 2147483647)) (v := gi h 34 3) rfl a2 rfl rfl (fr_gi b2 (rg_no rfl _)) ?_
  refine E_opf (q := ((-2147483648), 2147483647)) rfl a2 rfl rfl ?_
  obtain ⟨a3, b3, c3⟩ := st (k := 3) (q := ((-2147483648), 2147483647)) (by decide) rfl rfl a2 b2 c2
  refine E_al rfl L0 ?_
  refine E_al rfl L1 ?_
  refine E_ogf (q := (0, 8)) (v := gi h 34 4) rfl a3 rfl rfl (fr_gi b3 (rg_no rfl _)) ?_
  refine E_opf (q := (0, 8)) rfl a3 rfl rfl ?_
  obtain ⟨a4, b4, c4⟩ := st (k := 4) (q := (0, 8)) (by decide) rfl rfl a3 b3 c3
  refine E_al rfl L0 ?_
  refine E_al rfl L1 ?_
  refine E_ogf (q := (0, 8)) (v := gi h 34 5) rfl a4 rfl rfl (fr_gi b4 (rg_no rfl _)) ?_
  refine E_opf (q := (0, 8)) rfl a4 rfl rfl ?_
  obtain ⟨a5, b5, c5⟩ := st (k := 5) (q := (0, 8)) (by decide) rfl rfl a4 b4 c4
  refine E_al rfl L0 ?_
  refine E_al rfl L1 ?_
  refine E_ogf (q := (0, 20)) (v := gi h 34 6) rfl a5 rfl rfl (fr_gi b5 (rg_no rfl _)) ?_
  refine E_opf (q := (0, 20)) rfl a5 rfl rfl ?_
  obtain ⟨a6, b6, c6⟩ := st (k := 6) (q := (0, 20)) (by decide) rfl rfl a5 b5 c5
  generalize (pt (pt (pt (pt (pt (pt (pt h 15 0 (gi h 34 0)) 15 1 (gi h 34 1)) 15 2 (gi h 34 2)) 15 3 (gi h 34 3)) 15 4 (gi h 34 4)) 15 5 (gi h 34 5)) 15 6 (gi h 34 6)) = h6 at a6 b6 c6 ⊢
  refine E_ci 0 rfl (by decide) ?_
  refine E_is rfl (fun lv1 K2 kp => ?_)
  refine tk1_15_34 a6 (fun h7 lv2 hh7 f7 c7 M0 M1 => ?_) 8 (i := 0) lv1 (by omega) a6 (fr_rf _ _) (fun k hk => absurd hk (Nat.not_lt_zero k)) (kp 0 _ (by decide) rfl L0) (kp 1 _ (by decide) rfl L1) K2
  refine E_ci 0 rfl (by decide) ?_
  refine E_is rfl (fun lv3 K3 kp3 => ?_)
  refine tk2_15_34 hh7 (fun h8 lv4 hh8 f8 c8 N0 N1 => ?_) 20 (i := 0) lv3 (by omega) hh7 (fr_rf _ _) (fun k hk => absurd hk (Nat.not_lt_zero k)) (kp3 0 _ (by decide) rfl M0) (kp3 1 _ (by decide) rfl M1) K3
  refine E_ret rfl ⟨rfl, hh8, fr_trans (fr_wk rfl b6) (fr_trans (fr_wk rfl f7) (fr_wk rfl f8)), fun k hk => ?_, fun k hk => ?_, fun k hk => ?_⟩
  · rw [fr_gi f8 (rg_no rfl _), fr_gi f7 (rg_no rfl _)]; exact c6 k hk
  · obtain ⟨q1, q2, q3, q4, q5⟩ := c7 k hk
    refine ⟨?_, ?_, ?_, ?_, ?_⟩
    · rw [fr_gi f8 (rg_no rfl _), q1, fr_gi b6 (rg_no rfl _)]
    · rw [fr_gi f8 (rg_no rfl _), q2, fr_gi b6 (rg_no rfl _)]
    · rw [fr_gi f8 (rg_no rfl _), q3, fr_gi b6 (rg_no rfl _)]
    · rw [fr_gi f8 (rg_no rfl _), q4, fr_gi b6 (rg_no rfl _)]
    · rw [fr_gi f8 (rg_no rfl _), q5, fr_gi b6 (rg_no rfl _)]
  · obtain ⟨q6, q7, q8⟩ := c8 k hk
    refine ⟨?_, ?_, ?_⟩
    · rw [q6, fr_gi f7 (rg_no rfl _), fr_gi b6 (rg_no rfl _)]
    · rw [q7, fr_gi f7 (rg_no rfl _), fr_gi b6 (rg_no rfl _)]
    · rw [q8, fr_gi f7 (rg_no rfl _), fr_gi b6 (rg_no rfl _)]
theorem tk1_15_43 {h0 : pm_H} {d : Nat} {Q : pm_H → Option Value → Prop} (hh0 : HH h0) (K : ∀ (h : pm_H) (lv : List (Nat × Value)), HH h → fr_g [(16, 0, 7), (17, 0, 7), (18, 0, 7), (19, 0, 7), (20, 0, 7)] h0 h → (∀ k, k < 8 → gi h 16 k = gi h0 44 k ∧ gi h 17 k = gi h0 45 k ∧ gi h 18 k = gi h0 46 k ∧ gi h 19 k = gi h0 47 k ∧ gi h 20 k = gi h0 48 k) → pm_get lv 0 = some (.ref 15) → pm_get lv 1 = some (.ref 43) → Ends (pm_at tX5_take) (pm_Rt pm_P d) (130, lv, [], h, 0, 0) Q) (j : Nat) : ∀ {h : pm_H} {i : Nat} (lv : List (Nat × Value)), i + j = 8 → HH h → fr_g [(16, 0, 7), (17, 0, 7), (18, 0, 7), (19, 0, 7), (20, 0, 7)] h0 h → (∀ k, k < i → gi h 16 k = gi h0 44 k ∧ gi h 17 k = gi h0 45 k ∧ gi h 18 k = gi h0 46 k ∧ gi h 19 k = gi h0 47 k ∧ gi h 20 k = gi h0 48 k) → pm_get lv 0 = some (.ref 15) → pm_get lv 1 = some (.ref 43) → pm_get lv 2 = some (.int (nJ i)) → Ends (pm_at tX5_take) (pm_Rt pm_P d) (58, lv, [], h, 0, 0) Q := by
  induction j with
  | zero =>
    intro h i lv hj hh hf hc L0 L1 L2
    refine E_il rfl L2 ?_
    refine E_ci 8 rfl (by decide) ?_
    refine E_icT rfl (decide_eq_true ((nJ_le (by omega) (by omega)).mpr (by omega))) ?_
    exact K h lv hh hf (fun k hk => hc k (by omega)) L0 L1
  | succ j ih =>
    intro h i lv hj hh hf hc L0 L1 L2
    refine E_il rfl L2 ?_
    refine E_ci 8 rfl (by decide) ?_
    refine E_icF rfl (decide_eq_false (fun q => absurd ((nJ_le (by omega) (by omega)).mp q) (by omega))) ?_
    refine E_al rfl L0 ?_
    refine E_ogr (q := 16) rfl hh rfl rfl ?_
    refine E_il rfl L2 ?_
    refine E_al rfl L1 ?_
    refine E_ogr (q := 44) rfl hh rfl rfl ?_
    refine E_il rfl L2 ?_
    refine E_ial (v := gi h0 44 i) rfl hh rfl (by omega) (by decide) (by rw [fr_gi hf (rg_no rfl _)]) ?_
    have b1 := (ld_gi hh0 (a := 44) (k := i) (q := (0, 8)) (bd_u rfl (by omega))).2
    refine E_ias rfl hh rfl (by omega) (by decide) ?_
    have k1 : HH (pt h 16 i (gi h0 44 i)) := HH_pt (q := (0, 8)) hh (bd_u rfl (by omega)) b1.1 b1.2
    refine E_al rfl L0 ?_
    refine E_ogr (q := 17) rfl k1 rfl rfl ?_
    refine E_il rfl L2 ?_
    refine E_al rfl L1 ?_
    refine E_ogr (q := 45) rfl k1 rfl rfl ?_
    refine E_il rfl L2 ?_
    refine E_ial (v := gi h0 45 i) rfl k1 rfl (by omega) (by decide) (by rw [gi_ne (by omega), fr_gi hf (rg_no rfl _)]) ?_
    have b2 := (ld_gi hh0 (a := 45) (k := i) (q := (0, 8)) (bd_u rfl (by omega))).2
    refine E_ias rfl k1 rfl (by omega) (by decide) ?_
    have k2 : HH (pt (pt h 16 i (gi h0 44 i)) 17 i (gi h0 45 i)) := HH_pt (q := (0, 8)) k1 (bd_u rfl (by omega)) b2.1 b2.2
    refine E_al rfl L0 ?_
    refine E_ogr (q := 18) rfl k2 rfl rfl ?_
    refine E_il rfl L2 ?_
    refine E_al rfl L1 ?_
    refine E_ogr (q := 46) rfl k2 rfl rfl ?_
    refine E_il rfl L2 ?_
    refine E_ial (v := gi h0 46 i) rfl k2 rfl (by omega) (by decide) (by rw [gi_ne (by omega), gi_ne (by omega), fr_gi hf (rg_no rfl _)]) ?_
    have b3 := (ld_gi hh0 (a := 46) (k := i) (q := (0, 99)) (bd_u rfl (by omega))).2
    refine E_ias rfl k2 rfl (by omega) (by decide) ?_
    have k3 : HH (pt (pt (pt h 16 i (gi h0 44 i)) 17 i (gi h0 45 i)) 18 i (gi h0 46 i)) := HH_pt (q := (0, 99)) k2 (bd_u rfl (by omega)) b3.1 b3.2
    refine E_al rfl L0 ?_
    refine E_ogr (q := 19) rfl k3 rfl rfl ?_
    refine E_il rfl L2 ?_
    refine E_al rfl L1 ?_
    refine E_ogr (q := 47) rfl k3 rfl rfl ?_
    refine E_il rfl L2 ?_
    refine E_ial (v := gi h0 47 i) rfl k3 rfl (by omega) (by decide) (by rw [gi_ne (by omega), gi_ne (by omega), gi_ne (by omega), fr_gi hf (rg_no rfl _)]) ?_
    have b4 := (ld_gi hh0 (a := 47) (k := i) (q := (0, 9)) (bd_u rfl (by omega))).2
    refine E_ias rfl k3 rfl (by omega) (by decide) ?_
    have k4 : HH (pt (pt (pt (pt h 16 i (gi h0 44 i)) 17 i (gi h0 45 i)) 18 i (gi h0 46 i)) 19 i (gi h0 47 i)) := HH_pt (q := (0, 9)) k3 (bd_u rfl (by omega)) b4.1 b4.2
    refine E_al rfl L0 ?_
    refine E_ogr (q := 20) rfl k4 rfl rfl ?_
    refine E_il rfl L2 ?_
    refine E_al rfl L1 ?_
    refine E_ogr (q := 48) rfl k4 rfl rfl ?_
    refine E_il rfl L2 ?_
    refine E_ial (v := gi h0 48 i) rfl k4 rfl (by omega) (by decide) (by rw [gi_ne (by omega), gi_ne (by omega), gi_ne (by omega), gi_ne (by omega), fr_gi hf (rg_no rfl _)]) ?_
    have b5 := (ld_gi hh0 (a := 48) (k := i) (q := (0, 9)) (bd_u rfl (by omega))).2
    refine E_ias rfl k4 rfl (by omega) (by decide) ?_
    have k5 : HH (pt (pt (pt (pt (pt h 16 i (gi h0 44 i)) 17 i (gi h0 45 i)) 18 i (gi h0 46 i)) 19 i (gi h0 47 i)) 20 i (gi h0 48 i)) := HH_pt (q := (0, 9)) k4 (bd_u rfl (by omega)) b5.1 b5.2
    refine E_inc rfl L2 (nJ_inc _) (fun lv1 K2 kp => ?_)
    refine E_goto rfl ?_
    refine ih lv1 (i := i + 1) (by omega) k5 ?_ (fun k hk => ?_) (kp 0 _ (by decide) rfl L0) (kp 1 _ (by decide) rfl L1) K2
    · exact fr_ptr (l := 0) (u := 7) rfl (by omega) (by omega) (fr_ptr (l := 0) (u := 7) rfl (by omega) (by omega) (fr_ptr (l := 0) (u := 7) rfl (by omega) (by omega) (fr_ptr (l := 0) (u := 7) rfl (by omega) (by omega) (fr_ptr (l := 0) (u := 7) rfl (by omega) (by omega) (hf)))))
    · by_cases e : k = i
      · subst e
        refine ⟨?_, ?_, ?_, ?_, ?_⟩
        · rw [gi_ne (by omega), gi_ne (by omega), gi_ne (by omega), gi_ne (by omega)]; exact gi_pt (q := (0, 8)) hh (bd_u rfl (by omega)) b1.1 b1.2
        · rw [gi_ne (by omega), gi_ne (by omega), gi_ne (by omega)]; exact gi_pt (q := (0, 8)) k1 (bd_u rfl (by omega)) b2.1 b2.2
        · rw [gi_ne (by omega), gi_ne (by omega)]; exact gi_pt (q := (0, 99)) k2 (bd_u rfl (by omega)) b3.1 b3.2
        · rw [gi_ne (by omega)]; exact gi_pt (q := (0, 9)) k3 (bd_u rfl (by omega)) b4.1 b4.2
        · exact gi_pt (q := (0, 9)) k4 (bd_u rfl (by omega)) b5.1 b5.2
      · have q := hc k (by omega)
        refine ⟨?_, ?_, ?_, ?_, ?_⟩
        · rw [gi_ne (by omega), gi_ne (by omega), gi_ne (by omega), gi_ne (by omega), gi_ne (fun _ => e)]; exact q.1
        · rw [gi_ne (by omega), gi_ne (by omega), gi_ne (by omega), gi_ne (fun _ => e), gi_ne (by omega)]; exact q.2.1
        · rw [gi_ne (by omega), gi_ne (by omega), gi_ne (fun _ => e), gi_ne (by omega), gi_ne (by omega)]; exact q.2.2.1
        · rw [gi_ne (by omega), gi_ne (fun _ => e), gi_ne (by omega), gi_ne (by omega), gi_ne (by omega)]; exact q.2.2.2.1
        · rw [gi_ne (fun _ => e), gi_ne (by omega), gi_ne (by omega), gi_ne (by omega), gi_ne (by omega)]; exact q.2.2.2.2
theorem tk2_15_43 {h0 : pm_H} {d : Nat} {Q : pm_H → Option Value → Prop} (hh0 : HH h0) (K : ∀ (h : pm_H) (lv : List (Nat × Value)), HH h → fr_g [(21, 0, 19), (22, 0, 19), (23, 0, 19)] h0 h → (∀ k, k < 20 → gi h 21 k = gi h0 49 k ∧ gi h 22 k = gi h0 50 k ∧ gi h 23 k = gi h0 51 k) → pm_get lv 0 = some (.ref 15) → pm_get lv 1 = some (.ref 43) → Ends (pm_at tX5_take) (pm_Rt pm_P d) (180, lv, [], h, 0, 0) Q) (j : Nat) : ∀ {h : pm_H} {i : Nat} (lv : List (Nat × Value)), i + j = 20 → HH h → fr_g [(21, 0, 19), (22, 0, 19), (23, 0, 19)] h0 h → (∀ k, k < i → gi h 21 k = gi h0 49 k ∧ gi h 22 k = gi h0 50 k ∧ gi h 23 k = gi h0 51 k) → pm_get lv 0 = some (.ref 15) → pm_get lv 1 = some (.ref 43) → pm_get lv 2 = some (.int (nJ i)) → Ends (pm_at tX5_take) (pm_Rt pm_P d) (132, lv, [], h, 0, 0) Q := by
  induction j with
  | zero =>
    intro h i lv hj hh hf hc L0 L1 L2
    refine E_il rfl L2 ?_
    refine E_ci 20 rfl (by decide) ?_
    refine E_icT rfl (decide_eq_true ((nJ_le (by omega) (by omega)).mpr (by omega))) ?_
    exact K h lv hh hf (fun k hk => hc k (by omega)) L0 L1
  | succ j ih =>
    intro h i lv hj hh hf hc L0 L1 L2
    refine E_il rfl L2 ?_
    refine E_ci 20 rfl (by decide) ?_
    refine E_icF rfl (decide_eq_false (fun q => absurd ((nJ_le (by omega) (by omega)).mp q) (by omega))) ?_
    refine E_al rfl L0 ?_
    refine E_ogr (q := 21) rfl hh rfl rfl ?_
    refine E_il rfl L2 ?_
    refine E_al rfl L1 ?_
    refine E_ogr (q := 49) rfl hh rfl rfl ?_
    refine E_il rfl L2 ?_
    refine E_ial (v := gi h0 49 i) rfl hh rfl (by omega) (by decide) (by rw [fr_gi hf (rg_no rfl _)]) ?_
    have b6 := (ld_gi hh0 (a := 49) (k := i) (q := (0, 7)) (bd_u rfl (by omega))).2
    refine E_ias rfl hh rfl (by omega) (by decide) ?_
    have k6 : HH (pt h 21 i (gi h0 49 i)) := HH_pt (q := (0, 7)) hh (bd_u rfl (by omega)) b6.1 b6.2
    refine E_al rfl L0 ?_
    refine E_ogr (q := 22) rfl k6 rfl rfl ?_
    refine E_il rfl L2 ?_
    refine E_al rfl L1 ?_
    refine E_ogr (q := 50) rfl k6 rfl rfl ?_
    refine E_il rfl L2 ?_
    refine E_ial (v := gi h0 50 i) rfl k6 rfl (by omega) (by decide) (by rw [gi_ne (by omega), fr_gi hf (rg_no rfl _)]) ?_
    have b7 := (ld_gi hh0 (a := 50) (k := i) (q := (0, 8)) (bd_u rfl (by omega))).2
    refine E_ias rfl k6 rfl (by omega) (by decide) ?_
    have k7 : HH (pt (pt h 21 i (gi h0 49 i)) 22 i (gi h0 50 i)) := HH_pt (q := (0, 8)) k6 (bd_u rfl (by omega)) b7.1 b7.2
    refine E_al rfl L0 ?_
    refine E_ogr (q := 23) rfl k7 rfl rfl ?_
    refine E_il rfl L2 ?_
    refine E_al rfl L1 ?_
    refine E_ogr (q := 51) rfl k7 rfl rfl ?_
    refine E_il rfl L2 ?_
    refine E_zalB (v := gi h0 51 i) rfl k7 rfl (by omega) (by decide) (by rw [gi_ne (by omega), gi_ne (by omega), fr_gi hf (rg_no rfl _)]) ?_
    have b8 := (ld_gi hh0 (a := 51) (k := i) (q := (0, 1)) (bd_u rfl (by omega))).2
    refine E_zasB rfl k7 rfl (by omega) (by decide) (nar_z b8.1 b8.2) ?_
    have k8 : HH (pt (pt (pt h 21 i (gi h0 49 i)) 22 i (gi h0 50 i)) 23 i (gi h0 51 i)) := HH_pt (q := (0, 1)) k7 (bd_u rfl (by omega)) b8.1 b8.2
    refine E_inc rfl L2 (nJ_inc _) (fun lv1 K2 kp => ?_)
    refine E_goto rfl ?_
    refine ih lv1 (i := i + 1) (by omega) k8 ?_ (fun k hk => ?_) (kp 0 _ (by decide) rfl L0) (kp 1 _ (by decide) rfl L1) K2
    · exact fr_ptr (l := 0) (u := 19) rfl (by omega) (by omega) (fr_ptr (l := 0) (u := 19) rfl (by omega) (by omega) (fr_ptr (l := 0) (u := 19) rfl (by omega) (by omega) (hf)))
    · by_cases e : k = i
      · subst e
        refine ⟨?_, ?_, ?_⟩
        · rw [gi_ne (by omega), gi_ne (by omega)]; exact gi_pt (q := (0, 7)) hh (bd_u rfl (by omega)) b6.1 b6.2
        · rw [gi_ne (by omega)]; exact gi_pt (q := (0, 8)) k6 (bd_u rfl (by omega)) b7.1 b7.2
        · exact gi_pt (q := (0, 1)) k7 (bd_u rfl (by omega)) b8.1 b8.2
      · have q := hc k (by omega)
        refine ⟨?_, ?_, ?_⟩
        · rw [gi_ne (by omega), gi_ne (by omega), gi_ne (fun _ => e)]; exact q.1
        · rw [gi_ne (by omega), gi_ne (fun _ => e), gi_ne (by omega)]; exact q.2.1
        · rw [gi_ne (fun _ => e), gi_ne (by omega), gi_ne (by omega)]; exact q.2.2
noncomputable def TkF_15_43 : List Rng := [(15, 0, 6), (16, 0, 7), (17, 0, 7), (18, 0, 7), (19, 0, 7), (20, 0, 7), (21, 0, 19), (22, 0, 19), (23, 0, 19)]
noncomputable def TkQ_15_43 (h h' : pm_H) (r : Option Value) : Prop := r = none ∧ HH h' ∧ fr_g TkF_15_43 h h' ∧ (∀ k, k < 7 → gi h' 15 k = gi h 43 k) ∧ (∀ k, k < 8 → gi h' 16 k = gi h 44 k ∧ gi h' 17 k = gi h 45 k ∧ gi h' 18 k = gi h 46 k ∧ gi h' 19 k = gi h 47 k ∧ gi h' 20 k = gi h 48 k) ∧ ∀ k, k < 20 → gi h' 21 k = gi h 49 k ∧ gi h' 22 k = gi h 50 k ∧ gi h' 23 k = gi h 51 k
theorem sp_take_15_43 {h : pm_H} {d : Nat} (hh : HH h) : Sp (d + 1) 54 h [.ref 15, .ref 43] (TkQ_15_43 h) := by
  refine Sp_of aiX5_take rfl rfl rfl ?_
  have L0 : pm_get (lv_args 0 [.ref 15, .ref 43]) 0 = some (.ref 15) := rfl
  have L1 : pm_get (lv_args 0 [.ref 15, .ref 43]) 1 = some (.ref 43) := rfl
  generalize lv_args 0 [.ref 15, .ref 43] = lv at L0 L1 ⊢
  have st : ∀ {k : Nat} {q : Int × Int} {g : pm_H}, k < 7 → bd 15 k = some q → bd 43 k = some q → HH g → fr_g [(15, 0, 6)] h g → (∀ i, i < k → gi g 15 i = gi h 43 i) → HH (pt g 15 k (gi h 43 k)) ∧ fr_g [(15, 0, 6)] h (pt g 15 k (gi h 43 k)) ∧ ∀ i, i < k + 1 → gi (pt g 15 k (gi h 43 k)) 15 i = gi h 43 i := by
    intro k q g hk hb hb2 hg hf ha
    have b := (ld_gi hh hb2).2
    refine ⟨HH_pt hg hb b.1 b.2, fr_ptr (l := 0) (u := 6) rfl (by omega) (by omega) hf, fun i hi => ?_⟩
    by_cases e : i = k
    · rw [e]; exact gi_pt hg hb b.1 b.2
    · rw [gi_ne (fun _ => e)]; exact ha i (by omega)
  refine E_al rfl L0 ?_
  refine E_al rfl L1 ?_
  refine E_ogf (q := (0, 8)) (v := gi h 43 0) rfl hh rfl rfl rfl ?_
  refine E_opf (q := (0, 8)) rfl hh rfl rfl ?_
  obtain ⟨a0, b0, c0⟩ := st (k := 0) (q := (0, 8)) (by decide) rfl rfl hh (fr_rf _ _) (fun i hi => absurd hi (Nat.not_lt_zero i))
  refine E_al rfl L0 ?_
  refine E_al rfl L1 ?_
  refine E_ogf (q := (0, 3)) (v := gi h 43 1) rfl a0 rfl rfl (fr_gi b0 (rg_no rfl _)) ?_
  refine E_opf (q := (0, 3)) rfl a0 rfl rfl ?_
  obtain ⟨a1, b1, c1⟩ := st (k := 1) (q := (0, 3)) (by decide) rfl rfl a0 b0 c0
  refine E_al rfl L0 ?_
  refine E_al rfl L1 ?_
  refine E_ogf (q := (0, 10)) (v := gi h 43 2) rfl a1 rfl rfl (fr_gi b1 (rg_no rfl _)) ?_
  refine E_opf (q := (0, 10)) rfl a1 rfl rfl ?_
  obtain ⟨a2, b2, c2⟩ := st (k := 2) (q := (0, 10)) (by decide) rfl rfl a1 b1 c1
  refine E_al rfl L0 ?_
  refine E_al rfl L1 ?_
  refine E_ogf (q := ((-2147483648), 2147483647)) (v := gi h 43 3) rfl a2 rfl rfl (fr_gi b2 (rg_no rfl _)) ?_
  refine E_opf (q := ((-2147483648), 2147483647)) rfl a2 rfl rfl ?_
  obtain ⟨a3, b3, c3⟩ := st (k := 3) (q := ((-2147483648), 2147483647)) (by decide) rfl rfl a2 b2 c2
  refine E_al rfl L0 ?_
  refine E_al rfl L1 ?_
  refine E_ogf (q := (0, 8)) (v := gi h 43 4) rfl a3 rfl rfl (fr_gi b3 (rg_no rfl _)) ?_
  refine E_opf (q := (0, 8)) rfl a3 rfl rfl ?_
  obtain ⟨a4, b4, c4⟩ := st (k := 4) (q := (0, 8)) (by decide) rfl rfl a3 b3 c3
  refine E_al rfl L0 ?_
  refine E_al rfl L1 ?_
  refine E_ogf (q := (0, 8)) (v := gi h 43 5) rfl a4 rfl rfl (fr_gi b4 (rg_no rfl _)) ?_
  refine E_opf (q := (0, 8)) rfl a4 rfl rfl ?_
  obtain ⟨a5, b5, c5⟩ := st (k := 5) (q := (0, 8)) (by decide) rfl rfl a4 b4 c4
  refine E_al rfl L0 ?_
  refine E_al rfl L1 ?_
  refine E_ogf (q := (0, 20)) (v := gi h 43 6) rfl a5 rfl rfl (fr_gi b5 (rg_no rfl _)) ?_
  refine E_opf (q := (0, 20)) rfl a5 rfl rfl ?_
  obtain ⟨a6, b6, c6⟩ := st (k := 6) (q := (0, 20)) (by decide) rfl rfl a5 b5 c5
  generalize (pt (pt (pt (pt (pt (pt (pt h 15 0 (gi h 43 0)) 15 1 (gi h 43 1)) 15 2 (gi h 43 2)) 15 3 (gi h 43 3)) 15 4 (gi h 43 4)) 15 5 (gi h 43 5)) 15 6 (gi h 43 6)) = h6 at a6 b6 c6 ⊢
  refine E_ci 0 rfl (by decide) ?_
  refine E_is rfl (fun lv1 K2 kp => ?_)
  refine tk1_15_43 a6 (fun h7 lv2 hh7 f7 c7 M0 M1 => ?_) 8 (i := 0) lv1 (by omega) a6 (fr_rf _ _) (fun k hk => absurd hk (Nat.not_lt_zero k)) (kp 0 _ (by decide) rfl L0) (kp 1 _ (by decide) rfl L1) K2
  refine E_ci 0 rfl (by decide) ?_
  refine E_is rfl (fun lv3 K3 kp3 => ?_)
  refine tk2_15_43 hh7 (fun h8 lv4 hh8 f8 c8 N0 N1 => ?_) 20 (i := 0) lv3 (by omega) hh7 (fr_rf _ _) (fun k hk => absurd hk (Nat.not_lt_zero k)) (kp3 0 _ (by decide) rfl M0) (kp3 1 _ (by decide) rfl M1) K3
  refine E_ret rfl ⟨rfl, hh8, fr_trans (fr_wk rfl b6) (fr_trans (fr_wk rfl f7) (fr_wk rfl f8)), fun k hk => ?_, fun k hk => ?_, fun k hk => ?_⟩
  · rw [fr_gi f8 (rg_no rfl _), fr_gi f7 (rg_no rfl _)]; exact c6 k hk
  · obtain ⟨q1, q2, q3, q4, q5⟩ := c7 k hk
    refine ⟨?_, ?_, ?_, ?_, ?_⟩
    · rw [fr_gi f8 (rg_no rfl _), q1, fr_gi b6 (rg_no rfl _)]
    · rw [fr_gi f8 (rg_no rfl _), q2, fr_gi b6 (rg_no rfl _)]
    · rw [fr_gi f8 (rg_no rfl _), q3, fr_gi b6 (rg_no rfl _)]
    · rw [fr_gi f8 (rg_no rfl _), q4, fr_gi b6 (rg_no rfl _)]
    · rw [fr_gi f8 (rg_no rfl _), q5, fr_gi b6 (rg_no rfl _)]
  · obtain ⟨q6, q7, q8⟩ := c8 k hk
    refine ⟨?_, ?_, ?_⟩
    · rw [q6, fr_gi f7 (rg_no rfl _), fr_gi b6 (rg_no rfl _)]
    · rw [q7, fr_gi f7 (rg_no rfl _), fr_gi b6 (rg_no rfl _)]
    · rw [q8, fr_gi f7 (rg_no rfl _), fr_gi b6 (rg_no rfl _)]
end
section
/-! a street taken over: the summaries of take by hand (wants t1, t52b) -/
theorem FA_cp {h h' : pm_H} {T G T' G' : Nat} (hh : HH h) (hh' : HH h') (c1 : ∀ i, i < 20 → bd T i = some (0, 1)) (c2 : ∀ i, i < 20 → bd G i = some (0, 8)) (d1 : ∀ i, i < 20 → bd T' i = some (0, 1)) (d2 : ∀ i, i < 20 → bd G' i = some (0, 8)) (e : ∀ i, i < 20 → gi h' G' i = gi h G i ∧ gi h' T' i = gi h T i) (F : FA T 0 G 0 1 20 h) : FA T' 0 G' 0 1 20 h' := by
  intro i hi hj t g ht hg hz
  have k : 0 + 1 * i = i := by omega
  rw [k] at ht hg
  rw [(ld_gi hh' (d1 i hi)).1] at ht
  rw [(ld_gi hh' (d2 i hi)).1] at hg
  injection ht with ht
  injection ht with ht
  injection hg with hg
  injection hg with hg
  exact F i hi hj t g (by rw [k, (ld_gi hh (c1 i hi)).1, ← (e i hi).2, ht]) (by rw [k, (ld_gi hh (c2 i hi)).1, ← (e i hi).1, hg]) hz
theorem tk_sum {A B fA fB TA GA TB GB : Nat} {M : List Rng} (sp : ∀ {h : pm_H}, HH h → Sp 1 54 h [.ref A, .ref B] (fun h' r => r = none ∧ HH h' ∧ fr_g M h h' ∧ ∀ i, i < 20 → gi h' GA i = gi h GB i ∧ gi h' TA i = gi h TB i)) (b1 : ∀ i, i < 20 → bd TB i = some (0, 1)) (b2 : ∀ i, i < 20 → bd GB i = some (0, 8)) (b3 : ∀ i, i < 20 → bd TA i = some (0, 1)) (b4 : ∀ i, i < 20 → bd GA i = some (0, 8)) (eB : ∀ h, w0.1.2.1 fB h = FA TB 0 GB 0 1 20 h) (eA : ∀ h, w0.1.2.1 fA h = FA TA 0 GA 0 1 20 h) {fs : List Nat} (hfs : fB ∈ fs) : sum_g w0 (pm_Rt pm_P 1) (54, [cR A, cR B], [], fs, M, [([cR A, cR B], [], [fA], none)]) := by
  intro h as hh ha _ hf
  match as, ha with
  | [.ref a, .ref b], ⟨h1, h2, _⟩ =>
    have h1 : a = A := h1
    have h2 : b = B := h2
    subst h1
    subst h2
    obtain ⟨h', r, p1, rfl, hh', fr, t⟩ := sp hh
    have fb : FA TB 0 GB 0 1 20 h := (eB h) ▸ hf fB hfs
    refine ⟨h', none, p1, hh', fr, _, List.mem_cons_self, ⟨rfl, rfl, trivial⟩, fun _ hq => absurd hq List.not_mem_nil, fun i hi => ?_, trivial⟩
    rw [List.mem_singleton.mp hi, eA]
    exact FA_cp hh hh' b1 b2 b3 b4 t fb
theorem tkq_43_15 : sum_g w0 (pm_Rt pm_P 1) (54, [cR 43, cR 15], [], [41, 104], TkF_43_15, [([cR 43, cR 15], [], [104], none)]) := by
  refine tk_sum (TA := 51) (GA := 50) (TB := 23) (GB := 22) (fB := 41) (fun hh => Sp_mono ?_ (sp_take_43_15 (d := 0) hh)) (fun i hi => bd_u rfl (by omega)) (fun i hi => bd_u rfl (by omega)) (fun i hi => bd_u rfl (by omega)) (fun i hi => bd_u rfl (by omega)) (fun _ => rfl) (fun _ => rfl) (List.mem_cons_self)
  rintro h' r ⟨e1, e2, e3, -, -, e4⟩
  exact ⟨e1, e2, e3, fun i hi => ⟨(e4 i hi).2.1, (e4 i hi).2.2⟩⟩
theorem tkq_34_15 : sum_g w0 (pm_Rt pm_P 1) (54, [cR 34, cR 15], [], [41, 83], TkF_34_15, [([cR 34, cR 15], [], [83], none)]) := by
  refine tk_sum (TA := 42) (GA := 41) (TB := 23) (GB := 22) (fB := 41) (fun hh => Sp_mono ?_ (sp_take_34_15 (d := 0) hh)) (fun i hi => bd_u rfl (by omega)) (fun i hi => bd_u rfl (by omega)) (fun i hi => bd_u rfl (by omega)) (fun i hi => bd_u rfl (by omega)) (fun _ => rfl) (fun _ => rfl) (List.mem_cons_self)
  rintro h' r ⟨e1, e2, e3, -, -, e4⟩
  exact ⟨e1, e2, e3, fun i hi => ⟨(e4 i hi).2.1, (e4 i hi).2.2⟩⟩
theorem tkq_25_15 : sum_g w0 (pm_Rt pm_P 1) (54, [cR 25, cR 15], [], [41, 62], TkF_25_15, [([cR 25, cR 15], [], [62], none)]) := by
  refine tk_sum (TA := 33) (GA := 32) (TB := 23) (GB := 22) (fB := 41) (fun hh => Sp_mono ?_ (sp_take_25_15 (d := 0) hh)) (fun i hi => bd_u rfl (by omega)) (fun i hi => bd_u rfl (by omega)) (fun i hi => bd_u rfl (by omega)) (fun i hi => bd_u rfl (by omega)) (fun _ => rfl) (fun _ => rfl) (List.mem_cons_self)
  rintro h' r ⟨e1, e2, e3, -, -, e4⟩
  exact ⟨e1, e2, e3, fun i hi => ⟨(e4 i hi).2.1, (e4 i hi).2.2⟩⟩
theorem tkq_15_43 : sum_g w0 (pm_Rt pm_P 1) (54, [cR 15, cR 43], [], [41, 104], TkF_15_43, [([cR 15, cR 43], [], [41], none)]) := by
  refine tk_sum (TA := 23) (GA := 22) (TB := 51) (GB := 50) (fB := 104) (fun hh => Sp_mono ?_ (sp_take_15_43 (d := 0) hh)) (fun i hi => bd_u rfl (by omega)) (fun i hi => bd_u rfl (by omega)) (fun i hi => bd_u rfl (by omega)) (fun i hi => bd_u rfl (by omega)) (fun _ => rfl) (fun _ => rfl) (List.mem_cons_of_mem _ List.mem_cons_self)
  rintro h' r ⟨e1, e2, e3, -, -, e4⟩
  exact ⟨e1, e2, e3, fun i hi => ⟨(e4 i hi).2.1, (e4 i hi).2.2⟩⟩
theorem tkq_15_34 : sum_g w0 (pm_Rt pm_P 1) (54, [cR 15, cR 34], [], [41, 83], TkF_15_34, [([cR 15, cR 34], [], [41], none)]) := by
  refine tk_sum (TA := 23) (GA := 22) (TB := 42) (GB := 41) (fB := 83) (fun hh => Sp_mono ?_ (sp_take_15_34 (d := 0) hh)) (fun i hi => bd_u rfl (by omega)) (fun i hi => bd_u rfl (by omega)) (fun i hi => bd_u rfl (by omega)) (fun i hi => bd_u rfl (by omega)) (fun _ => rfl) (fun _ => rfl) (List.mem_cons_of_mem _ List.mem_cons_self)
  rintro h' r ⟨e1, e2, e3, -, -, e4⟩
  exact ⟨e1, e2, e3, fun i hi => ⟨(e4 i hi).2.1, (e4 i hi).2.2⟩⟩
theorem tkq_15_25 : sum_g w0 (pm_Rt pm_P 1) (54, [cR 15, cR 25], [], [41, 62], TkF_15_25, [([cR 15, cR 25], [], [41], none)]) := by
  refine tk_sum (TA := 23) (GA := 22) (TB := 33) (GB := 32) (fB := 62) (fun hh => Sp_mono ?_ (sp_take_15_25 (d := 0) hh)) (fun i hi => bd_u rfl (by omega)) (fun i hi => bd_u rfl (by omega)) (fun i hi => bd_u rfl (by omega)) (fun i hi => bd_u rfl (by omega)) (fun _ => rfl) (fun _ => rfl) (List.mem_cons_of_mem _ List.mem_cons_self)
  rintro h' r ⟨e1, e2, e3, -, -, e4⟩
  exact ⟨e1, e2, e3, fun i hi => ⟨(e4 i hi).2.1, (e4 i hi).2.2⟩⟩
theorem tkq_15_4 : sum_g w0 (pm_Rt pm_P 1) (54, [cR 15, cR 4], [], [20, 41], TkF_15_4, [([cR 15, cR 4], [], [41], none)]) := by
  refine tk_sum (TA := 23) (GA := 22) (TB := 12) (GB := 11) (fB := 20) (fun hh => Sp_mono ?_ (sp_take_15_4 (d := 0) hh)) (fun i hi => bd_u rfl (by omega)) (fun i hi => bd_u rfl (by omega)) (fun i hi => bd_u rfl (by omega)) (fun i hi => bd_u rfl (by omega)) (fun _ => rfl) (fun _ => rfl) (List.mem_cons_self)
  rintro h' r ⟨e1, e2, e3, -, -, e4⟩
  exact ⟨e1, e2, e3, fun i hi => ⟨(e4 i hi).2.1, (e4 i hi).2.2⟩⟩
end
section
/-! by hand: whyNot of the reference (its summary S643 in place of the executor's check) -/
theorem sp_isCarL {h : pm_H} {d : Nat} {y : Int64} (hh : HH h) : Sp (d + 2) 267 h [.ref 77, .long y] (fun h' r => h' = h ∧ r = some (.int (zb (0 ≤ y.toInt ∧ y.toInt ≤ (gn h 84 3 : Int) - 1)))) := by
  refine Sp_of aiX9_isCar rfl rfl rfl ?_
  refine E_ll rfl (x := y) rfl ?_
  refine E_c rfl ?_
  refine E_al rfl (x := 77) rfl ?_
  refine E_call rfl (sp_cars hh) (chk77 hh rfl rfl (by show 4 ≤ 8; decide)) (fun h1 r1 => ?_)
  rintro ⟨e1, f1, c1⟩
  rw [e1, f1]
  refine E_i2l rfl ?_
  refine E_c rfl ?_
  refine E_lbin rfl ?_
  refine E_call rfl (sp_in (x := y) rfl (b := 0) rfl (c := (gn h 84 3 : Int) - 1) (i2l_sub1 (by omega))) (chkS rfl (by show 0 ≤ 8; decide)) (fun h2 r2 => ?_)
  rintro ⟨e2, f2⟩
  rw [e2, f2]
  exact E_rtz rfl (zb_01 _) ⟨rfl, rfl⟩
theorem nJ_mulE (a b : Nat) : nJ a * nJ b = nJ (a * b) := by
  unfold nJ
  rw [← Int32.ofInt_mul]
  rfl
noncomputable def WnQ (h : pm_H) (x : Int32) (h' : pm_H) (r : Option Value) : Prop := h' = h ∧ ((∃ y : Int32, r = some (.int y) ∧ -6 ≤ y.toInt ∧ y.toInt ≤ -2) ∨ ∃ s, s < 4 ∧ x = nJ s ∧ r = some (.int 0) ∧ 0 ≤ (gi h 78 s).toInt ∧ 1 ≤ (gi h 83 0).toInt ∧ LDf 80 (60 * s) 2 0 7 79 s h)
section WN
variable {h : pm_H} {d : Nat} {x : Int32}
theorem wn_lp {s : Nat} (hh : HH h) (hs : s < 4) (hx : x = nJ s) (hf : 0 ≤ (gi h 78 s).toInt) (hq : 1 ≤ (gi h 83 0).toInt) (ev : gn h 79 s % 2 = 0) (j : Nat) : ∀ {k : Nat} (lv : List (Nat × Value)), gn h 79 s ≤ 2 * k + j → k ≤ 30 → (∀ m, m < k → 0 ≤ (gl h 80 (60 * s + 2 * m)).toInt ∧ (gl h 80 (60 * s + 2 * m)).toInt ≤ 7) → pm_get lv 0 = some (.ref 77) → pm_get lv 1 = some (.int (nJ s)) → pm_get lv 3 = some (.int (nJ (2 * k))) → Ends (pm_at tX9_whyNot) (pm_Rt pm_P (d + 2)) (50, lv, [], h, 0, 0) (WnQ h x) := by
  have b79 : bd 79 s = some (0, 60) := bd_u rfl (by omega)
  have hn : gn h 79 s ≤ 60 := gn_hi hh b79 (by decide)
  have n8 : gn h 84 3 ≤ 8 := gn_hi hh rfl (by decide)
  have no : ∀ (lv : List (Nat × Value)), Ends (pm_at tX9_whyNot) (pm_Rt pm_P (d + 2)) (103, lv, [], h, 0, 0) (WnQ h x) := by
    intro lv
    refine E_c rfl ?_
    exact E_rti rfl ⟨rfl, .inl ⟨_, rfl, by decide, by decide⟩⟩
  have yes : ∀ {k : Nat} (lv : List (Nat × Value)), gn h 79 s ≤ 2 * k → (∀ m, m < k → 0 ≤ (gl h 80 (60 * s + 2 * m)).toInt ∧ (gl h 80 (60 * s + 2 * m)).toInt ≤ 7) → Ends (pm_at tX9_whyNot) (pm_Rt pm_P (d + 2)) (112, lv, [], h, 0, 0) (WnQ h x) := by
    intro k lv hk hi
    refine E_ci 0 rfl (by decide) ?_
    refine E_rti rfl ⟨rfl, .inr ⟨s, hs, hx, rfl, hf, hq, fun n m h1 h2 => ?_⟩⟩
    rw [(ld_gi hh b79).1] at h1
    cases h1
    have h3 : (gi h 79 s).toInt = gn h 79 s := by rw [gi_gn hh b79 (by decide), nJ_toInt (by omega), gn_of (gi_gn hh b79 (by decide)) (by omega)]
    exact ⟨_, ld_gl hh (len := 240) rfl, (hi m (by omega)).1, (hi m (by omega)).2⟩
  induction j with
  | zero =>
    intro k lv hj hk hi L0 L1 L3
    refine E_il rfl L3 ?_
    refine E_al rfl L0 ?_
    refine E_gr rfl hh (q := 79) rfl ?_
    refine E_il rfl L1 ?_
    refine E_ial rfl hh rfl (by omega) (by decide) (gi_gn hh b79 (by decide)) ?_
    refine E_icT rfl (decide_eq_true ((nJ_le (by omega) (by omega)).mpr (by omega))) ?_
    exact yes lv (by omega) hi
  | succ j ih =>
    intro k lv hj hk hi L0 L1 L3
    refine E_il rfl L3 ?_
    refine E_al rfl L0 ?_
    refine E_gr rfl hh (q := 79) rfl ?_
    refine E_il rfl L1 ?_
    refine E_ial rfl hh rfl (by omega) (by decide) (gi_gn hh b79 (by decide)) ?_
    by_cases b0 : gn h 79 s ≤ 2 * k
    · refine E_icT rfl (decide_eq_true ((nJ_le (by omega) (by omega)).mpr b0)) ?_
      exact yes lv b0 hi
    refine E_icF rfl (decide_eq_false (fun q => b0 ((nJ_le (by omega) (by omega)).mp q))) ?_
    refine E_ci 60 rfl (by decide) ?_
    refine E_il rfl L1 ?_
    refine E_bin rfl (nJ_mulE _ _) ?_
    refine E_il rfl L3 ?_
    refine E_bin rfl (nJ_add _ _) ?_
    refine E_is rfl (fun lv1 M4 kp => ?_)
    have M0 := kp 0 _ (by decide) rfl L0
    have M1 := kp 1 _ (by decide) rfl L1
    have M3 := kp 3 _ (by decide) rfl L3
    refine E_al rfl M0 ?_
    refine E_al rfl M0 ?_
    refine E_gr rfl hh (q := 80) rfl ?_
    refine E_il rfl M4 ?_
    refine E_lal (len := 240) rfl hh rfl (by omega) (by decide) ?_
    refine E_call rfl (sp_isCarL (d := d) hh) (chk77 hh rfl rfl (by show 0 ≤ 8; decide)) (fun h1 r1 => ?_)
    rintro ⟨e1, f1⟩
    rw [e1, f1]
    by_cases b1 : 0 ≤ (gl h 80 (60 * s + 2 * k)).toInt ∧ (gl h 80 (60 * s + 2 * k)).toInt ≤ (gn h 84 3 : Int) - 1
    · refine E_ifF rfl (by rw [zb_T b1]; rfl) ?_
      refine E_al rfl M0 ?_
      refine E_gr rfl hh (q := 80) rfl ?_
      refine E_il rfl M4 ?_
      refine E_ci 1 rfl (by decide) ?_
      refine E_bin rfl (nJ_add _ _) ?_
      refine E_lal (len := 240) rfl hh rfl (by omega) (by decide) ?_
      refine E_c rfl ?_
      refine E_al rfl M0 ?_
      refine E_call rfl (Sp_le (by omega) (sp_places (d := d) hh)) (chk77 hh rfl rfl (by show 4 ≤ 8; decide)) (fun h2 r2 => ?_)
      rintro ⟨e2, f2, c2⟩
      rw [e2, f2]
      refine E_i2l rfl ?_
      refine E_call rfl (Sp_le (by omega) (sp_in (d := d) rfl (b := 0) rfl (c := (gn h 84 0 : Int)) (i2l_nJ (by omega)))) (chkS rfl (by show 0 ≤ 8; decide)) (fun h3 r3 => ?_)
      rintro ⟨e3, f3⟩
      rw [e3, f3]
      by_cases b2 : 0 ≤ (gl h 80 (60 * s + 2 * k + 1)).toInt ∧ (gl h 80 (60 * s + 2 * k + 1)).toInt ≤ (gn h 84 0 : Int)
      · refine E_ifT rfl (by rw [zb_T b2]; rfl) ?_
        refine E_inc rfl M3 (show nJ (2 * k) + 2 = nJ (2 * (k + 1)) from nJ_add (2 * k) 2) (fun lv2 N3 kp2 => ?_)
        refine E_goto rfl ?_
        refine ih lv2 (by omega) (by omega) (fun m hm => ?_) (kp2 0 _ (by decide) rfl M0) (kp2 1 _ (by decide) rfl M1) N3
        by_cases e : m = k
        · rw [e]; exact ⟨b1.1, by omega⟩
        · exact hi m (by omega)
      · refine E_ifF rfl (by rw [zb_F b2]; rfl) ?_
        exact no lv1
    · refine E_ifT rfl (by rw [zb_F b1]; rfl) ?_
      exact no lv1
theorem par_tab : ∀ m : Fin 61, (nJ m.val - nJ m.val / 2 * 2 = 0) ↔ m.val % 2 = 0 := by decide +kernel
theorem sp_whyNotX (hh : HH h) : Sp (d + 3) 372 h [.ref 77, .int x, .int (nJ 1)] (WnQ h x) := by
  refine Sp_of aiX9_whyNot rfl rfl rfl ?_
  have L0 : pm_get (lv_args 0 [.ref 77, .int x, .int (nJ 1)]) 0 = some (.ref 77) := rfl
  have L1 : pm_get (lv_args 0 [.ref 77, .int x, .int (nJ 1)]) 1 = some (.int x) := rfl
  have L2 : pm_get (lv_args 0 [.ref 77, .int x, .int (nJ 1)]) 2 = some (.int (nJ 1)) := rfl
  generalize lv_args 0 [.ref 77, .int x, .int (nJ 1)] = lv at L0 L1 L2 ⊢
  have no : Ends (pm_at tX9_whyNot) (pm_Rt pm_P (d + 2)) (18, lv, [], h, 0, 0) (WnQ h x) := by
    refine E_c rfl ?_
    exact E_rti rfl ⟨rfl, .inl ⟨_, rfl, by decide, by decide⟩⟩
  refine E_il rfl L1 ?_
  refine E_call rfl (sp_isSlot (d := d)) (chkS rfl (by show 0 ≤ 8; decide)) (fun h1 r1 => ?_)
  rintro ⟨e1, f1⟩
  rw [e1, f1]
  by_cases b1 : 0 ≤ x.toInt ∧ x.toInt ≤ 3
  · refine E_ifF rfl (by rw [zb_T b1]; rfl) ?_
    obtain ⟨s, hs, rfl⟩ : ∃ s, s < 4 ∧ x = nJ s := ⟨x.toInt.toNat, by omega, nJ_of b1.1⟩
    refine E_al rfl L0 ?_
    refine E_call rfl (Sp_le (by omega) (sp_isStreet (d := d) hh)) (chk77 hh rfl rfl (by show 0 ≤ 8; decide)) (fun h2 r2 => ?_)
    rintro ⟨e2, f2⟩
    rw [e2, f2]
    by_cases b2 : 0 < (gi h 83 0).toInt
    · refine E_ifF rfl (by rw [zb_T b2]; rfl) ?_
      refine E_il rfl L2 ?_
      refine E_ifT rfl (by decide) ?_
      refine E_al rfl L0 ?_
      refine E_gr rfl hh (q := 78) rfl ?_
      refine E_il rfl L1 ?_
      refine E_ial rfl hh rfl (by omega) (by decide) rfl ?_
      refine E_c rfl ?_
      have b78 : bd 78 s = some (-1, 3) := bd_u rfl (by omega)
      have r78 := (ld_gi hh b78).2
      dsimp only at r78
      have z1 : (-1 : Int32).toInt = -1 := rfl
      by_cases b3 : gi h 78 s = -1
      · refine E_icF rfl (decide_eq_false (fun q => q b3)) ?_
        refine E_c rfl ?_
        exact E_rti rfl ⟨rfl, .inl ⟨_, rfl, by decide, by decide⟩⟩
      · refine E_icT rfl (decide_eq_true b3) ?_
        have f0 : 0 ≤ (gi h 78 s).toInt := by
          have : ¬ (gi h 78 s).toInt = -1 := fun q => b3 (Int32.toInt_inj.mp (by rw [q, z1]))
          omega
        have b79 : bd 79 s = some (0, 60) := bd_u rfl (by omega)
        have hn : gn h 79 s ≤ 60 := gn_hi hh b79 (by decide)
        refine E_al rfl L0 ?_
        refine E_gr rfl hh (q := 79) rfl ?_
        refine E_il rfl L1 ?_
        refine E_ial rfl hh rfl (by omega) (by decide) (gi_gn hh b79 (by decide)) ?_
        refine E_c rfl ?_
        refine E_dv rfl (by decide) ?_
        have pt := par_tab ⟨gn h 79 s, by omega⟩
        by_cases b4 : gn h 79 s % 2 = 0
        · refine E_ifT rfl (decide_eq_true (pt.mpr b4)) ?_
          refine E_ci 0 rfl (by decide) ?_
          refine E_is rfl (fun lv1 K3 kp => ?_)
          exact wn_lp hh hs rfl f0 (by omega) b4 60 (k := 0) lv1 (by omega) (by omega) (fun m hm => absurd hm (Nat.not_lt_zero m)) (kp 0 _ (by decide) rfl L0) (kp 1 _ (by decide) rfl L1) K3
        · refine E_ifF rfl (decide_eq_false (fun q => b4 (pt.mp q))) ?_
          refine E_c rfl ?_
          exact E_rti rfl ⟨rfl, .inl ⟨_, rfl, by decide, by decide⟩⟩
    · refine E_ifT rfl (by rw [zb_F b2]; rfl) ?_
      exact no
  · refine E_ifT rfl (by rw [zb_F b1]; rfl) ?_
    exact no
end WN
set_option maxRecDepth 20000 in
theorem wnq : sum_g w0 (pm_Rt pm_P 3) (372, [cR 77, cI (-2147483648) 2147483647, cI 1 1], [], [], [], [([cR 77, cI (-2147483648) 2147483647, cI 1 1], [], [], some (.inl (cI (-6) (-2)))), ([cR 77, cI 3 3, cI 1 1], [((78, 3), 0, 3), ((83, 0), 1, 2147483647)], [953], some (.inl (cI 0 0))), ([cR 77, cI 2 2, cI 1 1], [((78, 2), 0, 3), ((83, 0), 1, 2147483647)], [891], some (.inl (cI 0 0))), ([cR 77, cI 1 1, cI 1 1], [((78, 1), 0, 3), ((83, 0), 1, 2147483647)], [829], some (.inl (cI 0 0))), ([cR 77, cI 0 0, cI 1 1], [((78, 0), 0, 3), ((83, 0), 1, 2147483647)], [767], some (.inl (cI 0 0)))]) := by
  intro h as hh ha _ _
  match as, ha with
  | [.ref a, .int x, .int y], ⟨h1, h2, h3, _⟩ =>
    have h1 : a = 77 := h1
    have h3 : (1 : Int) ≤ y.toInt ∧ y.toInt ≤ 1 := h3
    have h4 : y = nJ 1 := Int32.toInt_inj.mp (show y.toInt = 1 by omega)
    subst h1
    subst h4
    obtain ⟨h', r, p1, e, p2⟩ := sp_whyNotX (d := 0) (x := x) hh
    subst e
    refine ⟨h', r, p1, hh, fun _ _ _ => rfl, ?_⟩
    have mm : ∀ {s : Nat}, s < 4 → 0 ≤ (gi h' 78 s).toInt → 1 ≤ (gi h' 83 0).toInt → ∀ q ∈ ([((78, s), 0, 3), ((83, 0), 1, 2147483647)] : MB), ∃ x : Int32, ld h' q.1.1 q.1.2 = some (.int x) ∧ q.2.1 ≤ x.toInt ∧ x.toInt ≤ q.2.2 := by
      intro s hs f1 f2 q hq
      have b78 : bd 78 s = some (-1, 3) := bd_u rfl (by omega)
      rcases List.mem_cons.mp hq with hq | hq
      · rw [hq]; exact ⟨_, (ld_gi hh b78).1, f1, (ld_gi hh b78).2.2⟩
      · rw [List.mem_singleton.mp hq]; exact ⟨_, (ld_gi hh (a := 83) (k := 0) rfl).1, f2, (ld_gi hh (a := 83) (k := 0) rfl).2.2⟩
    rcases p2 with ⟨y, rfl, y1, y2⟩ | ⟨s, hs, rfl, rfl, f0, f1, f2⟩
    · exact ⟨_, List.mem_cons_self, ⟨rfl, ⟨ai_lo x, ai_hi x⟩, ⟨by decide, by decide⟩, trivial⟩, fun _ hq => absurd hq List.not_mem_nil, fun _ hq => absurd hq List.not_mem_nil, ⟨y1, y2⟩⟩
    · match s, hs, f0, f1, f2 with
      | 0, hs, f0, f1, f2 => exact ⟨_, List.mem_cons_of_mem _ (List.mem_cons_of_mem _ (List.mem_cons_of_mem _ (List.mem_cons_of_mem _ List.mem_cons_self))), ⟨rfl, ⟨by decide, by decide⟩, ⟨by decide, by decide⟩, trivial⟩, mm hs f0 f1, fun i hi => by rw [List.mem_singleton.mp hi]; exact f2, ⟨by decide, by decide⟩⟩
      | 1, hs, f0, f1, f2 => exact ⟨_, List.mem_cons_of_mem _ (List.mem_cons_of_mem _ (List.mem_cons_of_mem _ List.mem_cons_self)), ⟨rfl, ⟨by decide, by decide⟩, ⟨by decide, by decide⟩, trivial⟩, mm hs f0 f1, fun i hi => by rw [List.mem_singleton.mp hi]; exact f2, ⟨by decide, by decide⟩⟩
      | 2, hs, f0, f1, f2 => exact ⟨_, List.mem_cons_of_mem _ (List.mem_cons_of_mem _ List.mem_cons_self), ⟨rfl, ⟨by decide, by decide⟩, ⟨by decide, by decide⟩, trivial⟩, mm hs f0 f1, fun i hi => by rw [List.mem_singleton.mp hi]; exact f2, ⟨by decide, by decide⟩⟩
      | 3, hs, f0, f1, f2 => exact ⟨_, List.mem_cons_of_mem _ List.mem_cons_self, ⟨rfl, ⟨by decide, by decide⟩, ⟨by decide, by decide⟩, trivial⟩, mm hs f0 f1, fun i hi => by rw [List.mem_singleton.mp hi]; exact f2, ⟨by decide, by decide⟩⟩
end
