section
section ARR
variable {look : Nat → Option pm_I} {call : pm_Call} {Q : pm_H → Option Value → Prop} {pc n i t : Nat} {lv : List (Nat × Value)} {st : List Value} {w : pm_H × Nat × Nat} {h : pm_H} {z : Nat × Nat}
theorem E_aal {a t j q : Nat} {fs : List (Option Nat)} (h1 : look pc = some (.inl (s_aald t n))) (hh : HH h) (hc : hs0[a]? = some (.inr (.inr (.inl (t, fs))))) (hj : fs[j]? = some (some q)) (hl : fs.length < 2147483648) (kk : Ends look call (n, lv, .ref q :: st, h, z) Q) : Ends look call (pc, lv, .int (nJ j) :: .ref a :: st, h, z) Q := by
  obtain ⟨x, hx, hg⟩ := hs_at hh hc
  match x, hx, hg with
  | .inl (t2, len2, .inr (.inr (.inr (.inr g)))), hx, hg =>
    obtain ⟨rfl, rfl, hall⟩ := hg
    have hjl := (List.getElem?_eq_some_iff.mp hj).1
    have h2 := nJ_toInt (n := j) (by omega)
    have h3 : pm_ix (nJ j) fs.length = true := ai_ix (by omega) (by omega)
    have h4 : (nJ j).toNatClampNeg = j := by show (nJ j).toInt.toNat = j; omega
    refine E_st h1 ?_ kk
    simp only [s_aald, hx, h3, h4, hall j _ hj, Nat.beq_refl, Bool.and_self, cond_true]
    rfl
theorem E_zasA {A j : Nat} (h1 : look pc = some (.inl (s_zast n))) (hh : HH h) (hA : hs0[A]? = some (.inl (2, 3, [(0, 1)]))) (hj : j < 3) (kk : Ends look call (n, lv, st, pt h A j 1, z) Q) : Ends look call (pc, lv, .int (nJ 1) :: .int (nJ j) :: .ref A :: st, h, z) Q := by
  obtain ⟨f, hx, hf⟩ := ar_of hh hA
  have h2 := nJ_toInt (n := j) (by omega)
  have h3 : pm_ix (nJ j) 3 = true := ai_ix (by omega) (by omega)
  have h4 : (nJ j).toNatClampNeg = j := by show (nJ j).toInt.toNat = j; omega
  have h5 : pt h A j 1 = h.set A (.inl (2, 3, .inl (upd f j 1))) := by unfold pt; rw [hx]
  have h6 : vp_nar .boolean (nJ 1) = 1 := by decide
  refine E_st h1 ?_ kk
  simp only [s_zast, hx, h3, h4, cond_true, h5, h6]
theorem E_zalA {A j : Nat} (h1 : look pc = some (.inl (s_zald n))) (hh : HH h) (hA : hs0[A]? = some (.inl (2, 3, [(0, 1)]))) (hj : j < 3) (kk : Ends look call (n, lv, .int (gi h A j) :: st, h, z) Q) : Ends look call (pc, lv, .int (nJ j) :: .ref A :: st, h, z) Q := by
  obtain ⟨f, hx, hf⟩ := ar_of hh hA
  have h2 := nJ_toInt (n := j) (by omega)
  have h3 : pm_ix (nJ j) 3 = true := ai_ix (by omega) (by omega)
  have h4 : (nJ j).toNatClampNeg = j := by show (nJ j).toInt.toNat = j; omega
  refine E_st h1 ?_ kk
  simp only [s_zald, hx, h3, h4, cond_true, ← hf]
end ARR
end
section
/-! by hand: sightRefusal (its summary S629 in place of the executor's check, which takes 500 s) -/
/-- a slot: its cell a, its numbers in cell c -/
noncomputable def isS (a c : Nat) : Prop := ciO a = some 4 ∧ frO a 0 = some c ∧ hs0[c]? = some (.inr (.inl 60)) ∧ bd a 1 = some (0, 1) ∧ bd a 2 = some (0, 3) ∧ bd a 3 = some (0, 60)
theorem isS_at : ∀ s, s < 4 → isS (54 + 2 * s) (55 + 2 * s)
  | 0, _ => ⟨rfl, rfl, rfl, rfl, rfl, rfl⟩
  | 1, _ => ⟨rfl, rfl, rfl, rfl, rfl, rfl⟩
  | 2, _ => ⟨rfl, rfl, rfl, rfl, rfl, rfl⟩
  | 3, _ => ⟨rfl, rfl, rfl, rfl, rfl, rfl⟩
  | s + 4, hs => absurd hs (by omega)
theorem slot_at : ∀ s, s < 4 → [some 54, some 56, some 58, some 60][s]? = some (some (54 + 2 * s))
  | 0, _ => rfl
  | 1, _ => rfl
  | 2, _ => rfl
  | 3, _ => rfl
  | s + 4, hs => absurd hs (by omega)
theorem ld_gl {h : pm_H} {a len k : Nat} (hh : HH h) (hc : hs0[a]? = some (.inr (.inl len))) : ld h a k = some (.long (gl h a k)) := by
  obtain ⟨x, hx, hg⟩ := hs_at hh hc
  match x, hx, hg with
  | .inl (t2, len2, .inr (.inl f)), hx, hg =>
    unfold gl ld
    rw [hx]
theorem E_dv {look : Nat → Option pm_I} {call : pm_Call} {Q : pm_H → Option Value → Prop} {pc n : Nat} {lv : List (Nat × Value)} {st : List Value} {w : pm_H × Nat × Nat} {op : Int32 → Int32 → Int32} {x y : Int32} (h1 : look pc = some (.inl (s_div op n))) (h0 : ¬ y = 0) (k : Ends look call (n, lv, .int (op x y) :: st, w) Q) : Ends look call (pc, lv, .int y :: .int x :: st, w) Q := E_st h1 (by simp only [s_div, if_neg h0]) k
theorem E_asr {look : Nat → Option pm_I} {call : pm_Call} {Q : pm_H → Option Value → Prop} {pc n i a : Nat} {lv : List (Nat × Value)} {st : List Value} {w : pm_H × Nat × Nat} (h1 : look pc = some (.inl (s_as i n))) (k : ∀ lv' : List (Nat × Value), pm_get lv' i = some (.ref a) → (∀ (j : Nat) (u : Value), j ≠ i → u.category = 1 → pm_get lv j = some u → pm_get lv' j = some u) → Ends look call (n, lv', st, w) Q) : Ends look call (pc, lv, .ref a :: st, w) Q :=
  E_st h1 rfl (k (pm_put1 i (.ref a) lv) gp_self (fun _ _ a b c => gp_ne a b c))
noncomputable def SgQ (h : pm_H) (x : Int32) (h' : pm_H) (r : Option Value) : Prop := h' = h ∧ ((∃ y : Int32, r = some (.int y) ∧ -6 ≤ y.toInt ∧ y.toInt ≤ -2) ∨ ∃ s, s < 4 ∧ x = nJ s ∧ r = some (.int 0) ∧ gi h (54 + 2 * s) 1 = 1 ∧ LDf (55 + 2 * s) 0 2 1 7 (54 + 2 * s) 3 h)
section SR
variable {h : pm_H} {d a c k : Nat} {x : Int32}
theorem sr_no {lv : List (Nat × Value)} : Ends (pm_at tX8_sightRefusal) (pm_Rt pm_P d) (147, lv, [], h, 0, 0) (SgQ h x) := by
  refine E_c rfl ?_
  exact E_rti rfl ⟨rfl, .inl ⟨_, rfl, by decide, by decide⟩⟩
theorem sr_c {u w : Nat} (lv : List (Nat × Value)) (hu : u ≤ 1) (hw : w ≤ 1) (hk : k ≤ 60) (L0 : pm_get lv 0 = some (.ref 0)) (L3 : pm_get lv 3 = some (.ref a)) (L4 : pm_get lv 4 = some (.int (nJ (2 * k)))) (L5 : pm_get lv 5 = some (.int (nJ w)))
    (K : w = 1 → ∀ lv : List (Nat × Value), pm_get lv 0 = some (.ref 0) → pm_get lv 3 = some (.ref a) → pm_get lv 4 = some (.int (nJ (2 * (k + 1)))) → Ends (pm_at tX8_sightRefusal) (pm_Rt pm_P d) (46, lv, [], h, 0, 0) (SgQ h x)) : Ends (pm_at tX8_sightRefusal) (pm_Rt pm_P d) (135, lv, [.int (nJ u)], h, 0, 0) (SgQ h x) := by
  refine E_is rfl (fun lv1 M6 kp => ?_)
  have M0 := kp 0 _ (by decide) rfl L0
  have M3 := kp 3 _ (by decide) rfl L3
  have M4 := kp 4 _ (by decide) rfl L4
  have M5 := kp 5 _ (by decide) rfl L5
  refine E_il rfl M5 ?_
  by_cases b5 : w = 0
  · refine E_ifT rfl (decide_eq_true ((nJ_eq0 (by omega)).mpr b5)) ?_
    exact sr_no
  · refine E_ifF rfl (decide_eq_false (fun q => b5 ((nJ_eq0 (by omega)).mp q))) ?_
    refine E_il rfl M6 ?_
    by_cases b6 : u = 0
    · refine E_ifF rfl (decide_eq_false (fun q => q ((nJ_eq0 (by omega)).mpr b6))) ?_
      exact sr_no
    · refine E_ifT rfl (decide_eq_true (fun q => b6 ((nJ_eq0 (by omega)).mp q))) ?_
      refine E_inc rfl M4 (show nJ (2 * k) + 2 = nJ (2 * (k + 1)) from nJ_add (2 * k) 2) (fun lv2 N4 kp2 => ?_)
      refine E_goto rfl ?_
      exact K (by omega) lv2 (kp2 0 _ (by decide) rfl M0) (kp2 3 _ (by decide) rfl M3) N4
theorem sr_b {w : Nat} (hh : HH h) (S : isS a c) (lv : List (Nat × Value)) (hw : w ≤ 1) (hk : 2 * k + 1 < 60) (L0 : pm_get lv 0 = some (.ref 0)) (L3 : pm_get lv 3 = some (.ref a)) (L4 : pm_get lv 4 = some (.int (nJ (2 * k))))
    (K : w = 1 → ∀ lv : List (Nat × Value), pm_get lv 0 = some (.ref 0) → pm_get lv 3 = some (.ref a) → pm_get lv 4 = some (.int (nJ (2 * (k + 1)))) → Ends (pm_at tX8_sightRefusal) (pm_Rt pm_P d) (46, lv, [], h, 0, 0) (SgQ h x)) : Ends (pm_at tX8_sightRefusal) (pm_Rt pm_P d) (93, lv, [.int (nJ w)], h, 0, 0) (SgQ h x) := by
  obtain ⟨S1, S2, S3, S4, S5, S6⟩ := S
  refine E_is rfl (fun lv1 M5 kp => ?_)
  have M0 := kp 0 _ (by decide) rfl L0
  have M3 := kp 3 _ (by decide) rfl L3
  have M4 := kp 4 _ (by decide) rfl L4
  refine E_al rfl M3 ?_
  refine E_ogr rfl hh S1 S2 ?_
  refine E_il rfl M4 ?_
  refine E_ci 1 rfl (by decide) ?_
  refine E_bin rfl (nJ_add _ _) ?_
  refine E_lal rfl hh S3 (by omega) (by decide) ?_
  refine E_c rfl ?_
  refine E_lcmp rfl ?_
  by_cases b1 : lg_cmp (gl h c (2 * k + 1)) 0 < 0
  · refine E_ifT rfl (decide_eq_true b1) ?_
    refine E_ci 0 rfl (by decide) ?_
    exact sr_c lv1 (by omega) hw (by omega) M0 M3 M4 M5 K
  · refine E_ifF rfl (decide_eq_false b1) ?_
    refine E_al rfl M3 ?_
    refine E_ogr rfl hh S1 S2 ?_
    refine E_il rfl M4 ?_
    refine E_ci 1 rfl (by decide) ?_
    refine E_bin rfl (nJ_add _ _) ?_
    refine E_lal rfl hh S3 (by omega) (by decide) ?_
    refine E_al rfl M0 ?_
    refine E_ogr rfl hh rfl (q := 15) rfl ?_
    refine E_ogf rfl hh rfl (q := (0, 8)) rfl rfl ?_
    refine E_i2l rfl ?_
    refine E_lcmp rfl ?_
    by_cases b2 : 0 < lg_cmp (gl h c (2 * k + 1)) (gi h 15 0).toInt64
    · refine E_ifT rfl (decide_eq_true b2) ?_
      refine E_ci 0 rfl (by decide) ?_
      exact sr_c lv1 (by omega) hw (by omega) M0 M3 M4 M5 K
    · refine E_ifF rfl (decide_eq_false b2) ?_
      refine E_ci 1 rfl (by decide) ?_
      refine E_goto rfl ?_
      exact sr_c lv1 (by omega) hw (by omega) M0 M3 M4 M5 K
theorem sr_loop {s : Nat} (hh : HH h) (hs : s < 4) (hx : x = nJ s) (hf : gi h (54 + 2 * s) 1 = 1) (j : Nat) : ∀ {k : Nat} (lv : List (Nat × Value)), gn h (54 + 2 * s) 3 ≤ 2 * k + j → k ≤ 30 → (∀ m, m < k → 0 ≤ (gl h (55 + 2 * s) (2 * m)).toInt ∧ (gl h (55 + 2 * s) (2 * m)).toInt ≤ 7) → pm_get lv 0 = some (.ref 0) → pm_get lv 3 = some (.ref (54 + 2 * s)) → pm_get lv 4 = some (.int (nJ (2 * k))) → Ends (pm_at tX8_sightRefusal) (pm_Rt pm_P d) (46, lv, [], h, 0, 0) (SgQ h x) := by
  obtain ⟨S1, S2, S3, S4, S5, S6⟩ := isS_at s hs
  have hn : gn h (54 + 2 * s) 3 ≤ 60 := gn_hi hh S6 (by decide)
  have yes : ∀ {k : Nat} (lv : List (Nat × Value)), gn h (54 + 2 * s) 3 ≤ 2 * k + 1 → (∀ m, m < k → 0 ≤ (gl h (55 + 2 * s) (2 * m)).toInt ∧ (gl h (55 + 2 * s) (2 * m)).toInt ≤ 7) → Ends (pm_at tX8_sightRefusal) (pm_Rt pm_P d) (156, lv, [], h, 0, 0) (SgQ h x) := by
    intro k lv hk hi
    refine E_ci 0 rfl (by decide) ?_
    refine E_rti rfl ⟨rfl, .inr ⟨s, hs, hx, rfl, hf, fun n m h1 h2 => ?_⟩⟩
    rw [(ld_gi hh S6).1] at h1
    cases h1
    have h3 : (gi h (54 + 2 * s) 3).toInt = gn h (54 + 2 * s) 3 := by rw [gi_gn hh S6 (by decide), nJ_toInt (by omega), gn_of (gi_gn hh S6 (by decide)) (by omega)]
    rw [Nat.zero_add]
    exact ⟨_, ld_gl hh S3, (hi m (by omega)).1, (hi m (by omega)).2⟩
  induction j with
  | zero =>
    intro k lv hj hk hi L0 L3 L4
    refine E_il rfl L4 ?_
    refine E_ci 1 rfl (by decide) ?_
    refine E_bin rfl (nJ_add _ _) ?_
    refine E_al rfl L3 ?_
    refine E_ogf rfl hh S1 S6 (gi_gn hh S6 (by decide)) ?_
    refine E_icT rfl (decide_eq_true ((nJ_le (by omega) (by omega)).mpr (by omega))) ?_
    exact yes lv (by omega) hi
  | succ j ih =>
    intro k lv hj hk hi L0 L3 L4
    refine E_il rfl L4 ?_
    refine E_ci 1 rfl (by decide) ?_
    refine E_bin rfl (nJ_add _ _) ?_
    refine E_al rfl L3 ?_
    refine E_ogf rfl hh S1 S6 (gi_gn hh S6 (by decide)) ?_
    by_cases b0 : gn h (54 + 2 * s) 3 ≤ 2 * k + 1
    · refine E_icT rfl (decide_eq_true ((nJ_le (by omega) (by omega)).mpr b0)) ?_
      exact yes lv b0 hi
    · refine E_icF rfl (decide_eq_false (fun q => b0 ((nJ_le (by omega) (by omega)).mp q))) ?_
      refine E_al rfl L3 ?_
      refine E_ogr rfl hh S1 S2 ?_
      refine E_il rfl L4 ?_
      refine E_lal rfl hh S3 (by omega) (by decide) ?_
      refine E_c rfl ?_
      refine E_lcmp rfl ?_
      by_cases b1 : lg_cmp (gl h (55 + 2 * s) (2 * k)) 0 < 0
      · refine E_ifT rfl (decide_eq_true b1) ?_
        refine E_ci 0 rfl (by decide) ?_
        exact sr_b hh (isS_at s hs) lv (by omega) (by omega) L0 L3 L4 (fun q => absurd q (by omega))
      · refine E_ifF rfl (decide_eq_false b1) ?_
        refine E_al rfl L3 ?_
        refine E_ogr rfl hh S1 S2 ?_
        refine E_il rfl L4 ?_
        refine E_lal rfl hh S3 (by omega) (by decide) ?_
        refine E_al rfl L0 ?_
        refine E_ogr rfl hh rfl (q := 15) rfl ?_
        have c8 : gn h 15 4 ≤ 8 := gn_hi hh rfl (by decide)
        refine E_ogf rfl hh rfl (q := (0, 8)) rfl (gi_gn hh rfl (by decide)) ?_
        refine E_i2l rfl ?_
        refine E_lcmp rfl ?_
        by_cases b2 : 0 ≤ lg_cmp (gl h (55 + 2 * s) (2 * k)) (nJ (gn h 15 4)).toInt64
        · refine E_ifT rfl (decide_eq_true b2) ?_
          refine E_ci 0 rfl (by decide) ?_
          exact sr_b hh (isS_at s hs) lv (by omega) (by omega) L0 L3 L4 (fun q => absurd q (by omega))
        · refine E_ifF rfl (decide_eq_false b2) ?_
          refine E_ci 1 rfl (by decide) ?_
          refine E_goto rfl ?_
          have g1 : 0 ≤ (gl h (55 + 2 * s) (2 * k)).toInt := by
            have q : ¬ gl h (55 + 2 * s) (2 * k) < 0 := fun z => b1 ((lg_cmp_lt _ _).mpr z)
            rw [Int64.lt_iff_toInt_lt] at q
            have z0 : (0 : Int64).toInt = 0 := rfl
            omega
          have g2 : (gl h (55 + 2 * s) (2 * k)).toInt ≤ 7 := by
            have q : ¬ (nJ (gn h 15 4)).toInt64 ≤ gl h (55 + 2 * s) (2 * k) := fun z => b2 ((lg_cmp_ge _ _).mpr z)
            rw [Int64.le_iff_toInt_le, i2l_nJ (by omega)] at q
            omega
          exact sr_b hh (isS_at s hs) lv (by omega) (by omega) L0 L3 L4 (fun _ lv' N0 N3 N4 => ih (k := k + 1) lv' (by omega) (by omega) (fun m hm => if e : m = k then (by rw [e]; exact ⟨g1, g2⟩) else hi m (by omega)) N0 N3 N4)
end SR
end
