section
theorem pc1b_tab : ∀ n : Fin 9, 1 = pcn 1 (n.val + 1) := by decide +kernel
/-- nodes by rows: all that hang from the first p of the row, and those below k from the p-th -/
noncomputable def BM : List Rng := [(93, 0, 8)]
noncomputable def BF (h1 h : pm_H) (P p k cnt M : Nat) : Prop := HH h ∧ fr_g BM h1 h ∧ cnt = pcn M (P + 1) ∧ M < 512 ∧ isB M 0 = true ∧ (∀ v, 1 ≤ v → v ≤ P → (isB M v = true ↔ (∃ i, i < p ∧ gn h1 92 v = gn h 93 i) ∨ gn h1 92 v = gn h 93 p ∧ v < k)) ∧ (∀ i, i < cnt → gn h 93 i ≤ P ∧ isB M (gn h 93 i) = true) ∧ (∀ v, v ≤ P → isB M v = true → ∃ i, i < cnt ∧ gn h 93 i = v) ∧ ∀ i j, i < j → j < cnt → gn h 93 i ≠ gn h 93 j
theorem BF_skip {h1 h : pm_H} {P p k cnt M : Nat} (B : BF h1 h P p k cnt M) (he : ¬ gn h1 92 k = gn h 93 p) : BF h1 h P p (k + 1) cnt M := by
  obtain ⟨b1, b2, b3, b4, b5, b6, b7, b8, b9⟩ := B
  refine ⟨b1, b2, b3, b4, b5, fun v h1' h2' => ?_, b7, b8, b9⟩
  rw [b6 v h1' h2']
  constructor
  · rintro (q | ⟨q1, q2⟩)
    · exact .inl q
    · exact .inr ⟨q1, by omega⟩
  · rintro (q | ⟨q1, q2⟩)
    · exact .inl q
    · by_cases e : v = k
      · subst e; exact absurd q1 he
      · exact .inr ⟨q1, by omega⟩
theorem BF_next {h1 h : pm_H} {P p cnt M : Nat} (B : BF h1 h P p (P + 1) cnt M) : BF h1 h P (p + 1) 1 cnt M := by
  obtain ⟨b1, b2, b3, b4, b5, b6, b7, b8, b9⟩ := B
  refine ⟨b1, b2, b3, b4, b5, fun v h1' h2' => ?_, b7, b8, b9⟩
  rw [b6 v h1' h2']
  constructor
  · rintro (⟨i, q1, q2⟩ | ⟨q1, q2⟩)
    · exact .inl ⟨i, by omega, q2⟩
    · exact .inl ⟨p, by omega, q1⟩
  · rintro (⟨i, q1, q2⟩ | ⟨q1, q2⟩)
    · by_cases e : i = p
      · subst e; exact .inr ⟨q2, by omega⟩
      · exact .inl ⟨i, by omega, q2⟩
    · omega
theorem BF_new {h1 h : pm_H} {P p k cnt M : Nat} (B : BF h1 h P p k cnt M) (hp : p < cnt) (hk : 1 ≤ k) (hkP : k ≤ P) (he : gn h1 92 k = gn h 93 p) : isB M k = false := by
  obtain ⟨b1, b2, b3, b4, b5, b6, b7, b8, b9⟩ := B
  cases hz : isB M k with
  | false => rfl
  | true =>
    rcases (b6 k hk hkP).mp hz with ⟨i, q1, q2⟩ | ⟨q1, q2⟩
    · exact absurd (q2.symm.trans he) (b9 i p q1 hp)
    · omega
theorem BF_add {h1 h : pm_H} {P p k cnt M : Nat} (hP8 : P ≤ 8) (B : BF h1 h P p k cnt M) (hp : p < cnt) (hk : 1 ≤ k) (hkP : k ≤ P) (he : gn h1 92 k = gn h 93 p) : cnt ≤ 8 ∧ BF h1 (pt h 93 cnt (nJ k)) P p (k + 1) (cnt + 1) (M + 2 ^ k) := by
  have hz := BF_new B hp hk hkP he
  obtain ⟨b1, b2, b3, b4, b5, b6, b7, b8, b9⟩ := B
  have hlt := pcn_lt hz (n := P + 1) (by omega)
  have hc8 : cnt ≤ 8 := by omega
  have hh1 : HH (pt h 93 cnt (nJ k)) := HH_ptn b1 (bd_u rfl (by omega)) (by omega) (by omega) (by omega)
  have eN : gn (pt h 93 cnt (nJ k)) 93 cnt = k := gn_ptn b1 (bd_u rfl (by omega)) (by omega) (by omega) (by omega)
  have eO : ∀ i, i < cnt → gn (pt h 93 cnt (nJ k)) 93 i = gn h 93 i := fun i hi => gn_ne (by first | exact gxx rfl | omega)
  have hB : ∀ v, v ≤ P → isB (M + 2 ^ k) v = (v == k || isB M v) := fun v hv => isB_add b4 (by omega) (by omega) hz
  refine ⟨hc8, hh1, fr_ptr (l := 0) (u := 8) rfl (by omega) (by omega) b2, ?_, isB_add_lt b4 (by omega) hz, ?_, fun v h1' h2' => ?_, fun i hi => ?_, fun v hv hv2 => ?_, fun i j hij hj => ?_⟩
  · rw [pcn_add b4 (by omega) hz (by omega), if_pos (by omega), b3]
  · rw [hB 0 (by omega), b5, Bool.or_true]
  · rw [hB v h2', Bool.or_eq_true, b6 v h1' h2', beq_iff_eq, eO p hp]
    constructor
    · rintro (q | ⟨i, q1, q2⟩ | ⟨q1, q2⟩)
      · subst q; exact .inr ⟨he, by omega⟩
      · exact .inl ⟨i, q1, by rw [eO i (by omega)]; exact q2⟩
      · exact .inr ⟨q1, by omega⟩
    · rintro (⟨i, q1, q2⟩ | ⟨q1, q2⟩)
      · rw [eO i (by omega)] at q2
        exact .inr (.inl ⟨i, q1, q2⟩)
      · by_cases e : v = k
        · exact .inl e
        · exact .inr (.inr ⟨q1, by omega⟩)
  · by_cases e : i = cnt
    · rw [e, eN]; exact ⟨hkP, by rw [hB k hkP, beq_self_eq_true]; rfl⟩
    · rw [eO i (by omega)]
      have := b7 i (by omega)
      exact ⟨this.1, by rw [hB _ this.1, this.2, Bool.or_true]⟩
  · rw [hB v hv, Bool.or_eq_true, beq_iff_eq] at hv2
    by_cases e : v = k
    · exact ⟨cnt, by omega, by rw [eN, e]⟩
    · obtain ⟨i, q1, q2⟩ := b8 v hv (hv2.resolve_left e)
      exact ⟨i, by omega, by rw [eO i q1]; exact q2⟩
  · by_cases e : j = cnt
    · rw [e, eN, eO i (by omega)]
      intro q
      have := (b7 i (by omega)).2
      rw [q, hz] at this
      cases this
    · rw [eO i (by omega), eO j (by omega)]
      exact b9 i j hij (by omega)
theorem BF_reach {h1 h : pm_H} {P p cnt M : Nat} (B : BF h1 h P p 1 cnt M) (hpc : cnt ≤ p) (hF : ∀ v, 1 ≤ v → v ≤ P → gn h1 92 v ≤ P) : ∀ (d v : Nat), v ≤ P → dep (gn h1 92) d v → isB M v = true
  | 0, v, _, hd => by
    have hd : v = 0 := hd
    rw [hd]
    exact B.2.2.2.2.1
  | d + 1, v, hv, hd => by
    by_cases e : v = 0
    · rw [e]; exact B.2.2.2.2.1
    · have h0 : dep (gn h1 92) d (gn h1 92 v) := hd.resolve_left e
      have h1' := BF_reach B hpc hF d _ (hF v (by omega) hv) h0
      obtain ⟨i, q1, q2⟩ := B.2.2.2.2.2.2.2.1 _ (hF v (by omega) hv) h1'
      exact (B.2.2.2.2.2.1 v (by omega) hv).mpr (.inl ⟨i, by omega, q2.symm⟩)
theorem BF_lt {h1 h : pm_H} {P p cnt M : Nat} (B : BF h1 h P p 1 cnt M) (hpP : p ≤ P) (hF : ∀ v, 1 ≤ v → v ≤ P → dep (hg h1) 8 v ∧ gn h1 92 v ≤ P) : p < cnt := by
  by_cases hpc : p < cnt
  · exact hpc
  · exfalso
    have hall : ∀ v, v < P + 1 → isB M v = true := fun v hv => by
      by_cases e : v = 0
      · rw [e]; exact B.2.2.2.2.1
      · have := (hF v (by omega) (by omega)).1
        rw [hg_gn] at this
        exact BF_reach B (by omega) (fun v a b => (hF v a b).2) 8 v (by omega) this
    have h2 : ∀ n, n ≤ P + 1 → pcn M n = n := by
      intro n
      induction n with
      | zero => intro _; rfl
      | succ n ih => intro hn; unfold pcn; rw [ih (by omega), if_pos (hall n (by omega))]
    have h3 := h2 (P + 1) (Nat.le_refl _)
    have h4 := B.2.2.1
    omega
theorem BF_zero {h1 : pm_H} {P : Nat} (hP8 : P ≤ 8) (hh : HH h1) : BF h1 (pt h1 93 0 (nJ 0)) P 0 1 1 1 := by
  have hh2 : HH (pt h1 93 0 (nJ 0)) := HH_ptn hh (bd_u rfl (by omega)) (by omega) (by omega) (by omega)
  have e0 : gn (pt h1 93 0 (nJ 0)) 93 0 = 0 := gn_ptn hh (bd_u rfl (by omega)) (by omega) (by omega) (by omega)
  have h1b : ∀ v, v ≤ P → isB 1 v = true → v = 0 := fun v hv q => by
    by_cases e : v = 0
    · exact e
    · rw [one_bit ⟨v, by omega⟩ e] at q; cases q
  refine ⟨hh2, fr_ptr (l := 0) (u := 8) rfl (by omega) (by omega) (fr_rf _ _), ?_, by omega, rfl, fun v a b => ⟨fun q => ?_, fun q => ?_⟩, fun i hi => ?_, fun v hv q => ?_, fun i j a b => by omega⟩
  · exact pc1b_tab ⟨P, by omega⟩
  · have := h1b v b q; omega
  · rcases q with ⟨i, q1, q2⟩ | ⟨q1, q2⟩
    · omega
    · omega
  · have : i = 0 := by omega
    rw [this, e0]; exact ⟨Nat.zero_le _, rfl⟩
  · exact ⟨0, by omega, by rw [e0]; exact (h1b v hv q).symm⟩
theorem ws_in {h0 gA : pm_H} {d P c : Nat} (hP8 : P ≤ 8) (hc : c < P) (hP : gn gA 84 0 = P) (hf1 : fr_g TM h0 gA) (hgA : HH gA) (hF : ∀ v, 1 ≤ v → v ≤ P → dep (hg gA) 8 v ∧ gn gA 92 v ≤ P) {p : Nat} (hpP : p ≤ P) (K : ∀ {h : pm_H} {n M : Nat} (lv : List (Nat × Value)), p < n → BF gA h P (p + 1) 1 n M → pm_get lv 0 = some (.ref 77) → pm_get lv 2 = some (.int (nJ c)) → pm_get lv 4 = some (.int (nJ n)) → pm_get lv 5 = some (.int (nJ (p + 1))) → Ends (pm_at tX9_wish) (pm_Rt pm_P (d + 29)) (48, lv, [], h, 0, 0) (TQ h0)) (j : Nat) : ∀ {h : pm_H} {k n M : Nat} (lv : List (Nat × Value)), k + j = P + 1 → 1 ≤ k → p < n → BF gA h P p k n M → pm_get lv 0 = some (.ref 77) → pm_get lv 2 = some (.int (nJ c)) → pm_get lv 4 = some (.int (nJ n)) → pm_get lv 5 = some (.int (nJ p)) → pm_get lv 6 = some (.int (nJ k)) → Ends (pm_at tX9_wish) (pm_Rt pm_P (d + 29)) (60, lv, [], h, 0, 0) (TQ h0) := by
  induction j with
  | zero =>
    intro h k n M lv hj hk hp B L0 L2 L4 L5 L6
    have hpe : gn h 84 0 = P := by rw [fr_gn B.2.1 (rg_no rfl _)]; exact hP
    refine E_il rfl L6 ?_
    refine E_al rfl L0 ?_
    refine E_call rfl (sp_places B.1) (chk77 B.1 rfl rfl (by show 1 ≤ 8; decide)) (fun h1 r1 => ?_)
    rintro ⟨e1, f1, c1⟩
    rw [e1, f1]
    show Ends _ _ (66, lv, [.int (nJ (gn h 84 0)), .int (nJ k)], h, 0, 0) _
    refine E_icT rfl (decide_eq_true ((nJ_lt (by omega) (by omega)).mpr (by omega))) ?_
    refine E_inc rfl L5 (nJ_inc _) (fun lv2 L2_5 kp2 => ?_)
    have L2_0 := kp2 0 _ (nbz rfl) rfl L0
    have L2_2 := kp2 2 _ (nbz rfl) rfl L2
    have L2_4 := kp2 4 _ (nbz rfl) rfl L4
    have L2_6 := kp2 6 _ (nbz rfl) rfl L6
    refine E_goto rfl ?_
    exact K lv2 hp (BF_next ((show k = P + 1 by omega) ▸ B)) L2_0 L2_2 L2_4 L2_5
  | succ j ih =>
    intro h k n M lv hj hk hp B L0 L2 L4 L5 L6
    have hpe : gn h 84 0 = P := by rw [fr_gn B.2.1 (rg_no rfl _)]; exact hP
    refine E_il rfl L6 ?_
    refine E_al rfl L0 ?_
    refine E_call rfl (sp_places B.1) (chk77 B.1 rfl rfl (by show 1 ≤ 8; decide)) (fun h1 r1 => ?_)
    rintro ⟨e1, f1, c1⟩
    rw [e1, f1]
    show Ends _ _ (66, lv, [.int (nJ (gn h 84 0)), .int (nJ k)], h, 0, 0) _
    refine E_icF rfl (decide_eq_false (fun q => absurd ((nJ_lt (by omega) (by omega)).mp q) (by omega))) ?_
    have hk8 : gn gA 92 k ≤ 8 := gn_hi hgA (bd_u rfl (by omega)) (by decide)
    have hcn : n ≤ 9 := by have := B.2.2.1; have := pcn_le M (P + 1); omega
    refine E_al rfl L0 ?_
    refine E_gr rfl B.1 (q := 92) rfl ?_
    refine E_il rfl L6 ?_
    refine E_ial rfl B.1 rfl (by omega) (by decide) (show gi h 92 k = nJ ((gn gA 92 k)) from by rw [fr_gi B.2.1 (rg_no rfl _)]; exact gi_gn hgA (bd_u rfl (by omega)) (by decide)) ?_
    refine E_al rfl L0 ?_
    refine E_gr rfl B.1 (q := 93) rfl ?_
    refine E_il rfl L5 ?_
    have b2 : gn h 93 p ≤ 8 := gn_hi B.1 (bd_u rfl (by omega)) (by decide)
    refine E_ial rfl B.1 rfl (by omega) (by decide) (gi_gn B.1 (bd_u rfl (by omega)) (by decide)) ?_
    by_cases hb3 : (gn gA 92 k) = (gn h 93 p)
    · refine E_icT rfl (decide_eq_true ((nJ_eq (by omega) (by omega)).mpr hb3)) ?_
      have hadd := BF_add hP8 B hp hk (by omega) hb3
      refine E_il rfl L6 ?_
      refine E_il rfl L2 ?_
      refine E_ci 1 rfl ci1 ?_
      refine E_bin rfl (nJ_add _ _) ?_
      by_cases hb4 : ¬ k = (c + 1)
      · refine E_icT rfl (decide_eq_true (fun q => hb4 ((nJ_eq (by omega) (by omega)).mp q))) ?_
        refine E_al rfl L0 ?_
        refine E_gr rfl B.1 (q := 93) rfl ?_
        refine E_il rfl L4 ?_
        refine E_il rfl L6 ?_
        refine E_ias rfl B.1 rfl (by omega) (by decide) ?_
        have hh5 : HH (pt h 93 n (nJ k)) := HH_ptn B.1 (bd_u rfl (by omega)) (by omega) (by omega) (by omega)
        refine E_inc rfl L4 (nJ_inc _) (fun lv6 L6_4 kp6 => ?_)
        have L6_0 := kp6 0 _ (nbz rfl) rfl L0
        have L6_2 := kp6 2 _ (nbz rfl) rfl L2
        have L6_5 := kp6 5 _ (nbz rfl) rfl L5
        have L6_6 := kp6 6 _ (nbz rfl) rfl L6
        refine E_inc rfl L6_6 (nJ_inc _) (fun lv7 L7_6 kp7 => ?_)
        have L7_0 := kp7 0 _ (nbz rfl) rfl L6_0
        have L7_2 := kp7 2 _ (nbz rfl) rfl L6_2
        have L7_4 := kp7 4 _ (nbz rfl) rfl L6_4
        have L7_5 := kp7 5 _ (nbz rfl) rfl L6_5
        refine E_goto rfl ?_
        exact ih lv7 (by omega) (by omega) (by omega) hadd.2 L7_0 L7_2 L7_4 L7_5 L7_6
      · refine E_icF rfl (decide_eq_false (fun q => hb4 (fun z => q ((nJ_eq (by omega) (by omega)).mpr z)))) ?_
        refine E_il rfl L5 ?_
        refine E_ci 1 rfl ci1 ?_
        refine E_bin rfl (nJ_add _ _) ?_
        exact E_rti rfl ⟨B.1, fr_trans hf1 (fr_wk rfl B.2.1), _, rfl⟩
    · refine E_icF rfl (decide_eq_false (fun q => hb3 ((nJ_eq (by omega) (by omega)).mp q))) ?_
      refine E_goto rfl ?_
      refine E_inc rfl L6 (nJ_inc _) (fun lv8 L8_6 kp8 => ?_)
      have L8_0 := kp8 0 _ (nbz rfl) rfl L0
      have L8_2 := kp8 2 _ (nbz rfl) rfl L2
      have L8_4 := kp8 4 _ (nbz rfl) rfl L4
      have L8_5 := kp8 5 _ (nbz rfl) rfl L5
      refine E_goto rfl ?_
      exact ih lv8 (by omega) (by omega) hp (BF_skip B hb3) L8_0 L8_2 L8_4 L8_5 L8_6
theorem ws_out {h0 gA : pm_H} {d P c : Nat} (hP8 : P ≤ 8) (hc : c < P) (hP : gn gA 84 0 = P) (hf1 : fr_g TM h0 gA) (hgA : HH gA) (hF : ∀ v, 1 ≤ v → v ≤ P → dep (hg gA) 8 v ∧ gn gA 92 v ≤ P) (j : Nat) : ∀ {h : pm_H} {p n M : Nat} (lv : List (Nat × Value)), p + j = P + 1 → BF gA h P p 1 n M → pm_get lv 0 = some (.ref 77) → pm_get lv 2 = some (.int (nJ c)) → pm_get lv 4 = some (.int (nJ n)) → pm_get lv 5 = some (.int (nJ p)) → Ends (pm_at tX9_wish) (pm_Rt pm_P (d + 29)) (48, lv, [], h, 0, 0) (TQ h0) := by
  induction j with
  | zero =>
    intro h p n M lv hj B L0 L2 L4 L5
    have hpe : gn h 84 0 = P := by rw [fr_gn B.2.1 (rg_no rfl _)]; exact hP
    refine E_il rfl L5 ?_
    refine E_al rfl L0 ?_
    refine E_call rfl (sp_places B.1) (chk77 B.1 rfl rfl (by show 1 ≤ 8; decide)) (fun h1 r1 => ?_)
    rintro ⟨e1, f1, c1⟩
    rw [e1, f1]
    show Ends _ _ (54, lv, [.int (nJ (gn h 84 0)), .int (nJ p)], h, 0, 0) _
    refine E_icT rfl (decide_eq_true ((nJ_lt (by omega) (by omega)).mpr (by omega))) ?_
    refine E_c rfl ?_
    exact E_rti rfl ⟨B.1, fr_trans hf1 (fr_wk rfl B.2.1), _, rfl⟩
  | succ j ih =>
    intro h p n M lv hj B L0 L2 L4 L5
    have hpe : gn h 84 0 = P := by rw [fr_gn B.2.1 (rg_no rfl _)]; exact hP
    refine E_il rfl L5 ?_
    refine E_al rfl L0 ?_
    refine E_call rfl (sp_places B.1) (chk77 B.1 rfl rfl (by show 1 ≤ 8; decide)) (fun h1 r1 => ?_)
    rintro ⟨e1, f1, c1⟩
    rw [e1, f1]
    show Ends _ _ (54, lv, [.int (nJ (gn h 84 0)), .int (nJ p)], h, 0, 0) _
    refine E_icF rfl (decide_eq_false (fun q => absurd ((nJ_lt (by omega) (by omega)).mp q) (by omega))) ?_
    refine E_ci 1 rfl ci1 ?_
    refine E_is rfl (fun lv2 L2_6 kp2 => ?_)
    have L2_0 := kp2 0 _ (nbz rfl) rfl L0
    have L2_2 := kp2 2 _ (nbz rfl) rfl L2
    have L2_4 := kp2 4 _ (nbz rfl) rfl L4
    have L2_5 := kp2 5 _ (nbz rfl) rfl L5
    exact ws_in hP8 hc hP hf1 hgA hF (by omega) (fun lv' a B' b c e f => ih lv' (by omega) B' b c e f) P (k := 1) lv2 (by omega) (by omega) (BF_lt B (by omega) hF) B L2_0 L2_2 L2_4 L2_5 L2_6
theorem tp_wish {h0 : pm_H} {d : Nat} {x y : Int32} (hh0 : HH h0) (hR : RI 0 h0) : Sp (d + 30) 374 h0 [.ref 77, .int x, .int y] (TQ h0) := by
  refine Sp_of aiX9_wish rfl rfl rfl ?_
  have L0 : pm_get (lv_args 0 [.ref 77, .int x, .int y]) 0 = some (.ref 77) := rfl
  have L1 : pm_get (lv_args 0 [.ref 77, .int x, .int y]) 1 = some (.int x) := rfl
  have L2 : pm_get (lv_args 0 [.ref 77, .int x, .int y]) 2 = some (.int y) := rfl
  generalize lv_args 0 [.ref 77, .int x, .int y] = lv at L0 L1 L2 ⊢
  refine E_al rfl L0 ?_
  refine E_ci 0 rfl ci0 ?_
  refine E_pf rfl hh0 rfl ?_
  have hh1 : HH (pt h0 77 0 (nJ 0)) := HH_ptn hh0 rfl (by omega) (by omega) (by omega)
  have fr1 : fr_g TM h0 (pt h0 77 0 (nJ 0)) := fr_ptr (l := 0) (u := 0) rfl (by omega) (by omega) (fr_rf TM h0)
  refine E_al rfl L0 ?_
  refine E_il rfl L1 ?_
  refine E_il rfl L2 ?_
  refine E_i2l rfl ?_
  refine E_c rfl ?_
  refine E_al rfl L0 ?_
  refine E_call rfl (sp_places hh1) (chk77 hh1 rfl rfl (by show 6 ≤ 8; decide)) (fun h2 r2 => ?_)
  rintro ⟨e2, f2, c2⟩
  rw [e2, f2]
  show Ends _ _ (14, lv, [.int (nJ (gn (pt h0 77 0 (nJ 0)) 84 0)), .long (0), .long (y).toInt64, .int x, .ref 77], (pt h0 77 0 (nJ 0)), 0, 0) _
  refine E_i2l rfl ?_
  refine E_c rfl ?_
  refine E_lbin rfl ?_
  refine E_call rfl (sp_in (a := y.toInt) (b := 0) (c := (((((gn (pt h0 77 0 (nJ 0)) 84 0)) : Nat) : Int) - 1)) (i2l_toInt _) rfl (i2l_sub1 (by omega))) (chkS rfl (by show 2 ≤ 8; decide)) (fun h3 r3 => ?_)
  rintro ⟨e3, f3⟩
  rw [e3, f3]
  show Ends _ _ (20, lv, [.int (zb (0 ≤ y.toInt ∧ y.toInt ≤ (((((gn (pt h0 77 0 (nJ 0)) 84 0)) : Nat) : Int) - 1))), .int x, .ref 77], (pt h0 77 0 (nJ 0)), 0, 0) _
  refine E_call rfl (Sp_le (by first | exact Nat.add_le_add_left (Nat.le_of_ble_eq_true rfl) _ | exact Nat.le_of_ble_eq_true rfl | omega) (sp_whyNotCode (d := 0) (p := 0 ≤ y.toInt ∧ y.toInt ≤ (((((gn (pt h0 77 0 (nJ 0)) 84 0)) : Nat) : Int) - 1)) hh1)) (chk77 hh1 rfl rfl (by show 0 ≤ 8; decide)) (fun h4 r4 => ?_)
  rintro ⟨e4, y4, f4, g4⟩
  rw [e4, f4]
  show Ends _ _ (23, lv, [.int y4], (pt h0 77 0 (nJ 0)), 0, 0) _
  refine E_is rfl (fun lv5 L5_3 kp5 => ?_)
  have L5_0 := kp5 0 _ (nbz rfl) rfl L0
  have L5_1 := kp5 1 _ (nbz rfl) rfl L1
  have L5_2 := kp5 2 _ (nbz rfl) rfl L2
  refine E_il rfl L5_3 ?_
  by_cases hb6 : y4 = 0
  · refine E_ifT rfl (decide_eq_true hb6) ?_
    obtain ⟨sl, rfl, hCD, hpp⟩ := g4 hb6
    have hP8 : gn (pt h0 77 0 (nJ 0)) 84 0 ≤ 8 := gn_hi hh1 rfl (by decide)
    obtain ⟨k, hk, rfl⟩ := nJ_of2 (n := gn (pt h0 77 0 (nJ 0)) 84 0 - 1) hpp.1 (by have h9 := hpp.2; have h8 := hpp.1; have h7 := hCD.2.1; omega)
    have hk2 : k < gn (pt h0 77 0 (nJ 0)) 84 0 := by have h7 := hCD.2.1; omega
    refine E_al rfl L5_0 ?_
    refine E_il rfl L5_1 ?_
    refine E_call rfl (Sp_le (by first | exact Nat.add_le_add_left (Nat.le_of_ble_eq_true rfl) _ | exact Nat.le_of_ble_eq_true rfl | omega) (sp_laysSlot (d := 0) hh1 hCD)) (chk77 hh1 rfl rfl (by show 0 ≤ 8; decide)) (fun h7 r7 => ?_)
    rintro ⟨e7, hh7, fq7, dq7⟩
    rw [e7]
    have fr7 : fr_g TM h0 h7 := fr_trans fr1 (fr_wk rfl fq7)
    have pe7 : gn h7 84 0 = gn (pt h0 77 0 (nJ 0)) 84 0 := fr_gn fq7 (rg_no rfl _)
    show Ends _ _ (35, lv5, [], h7, 0, 0) _
    refine E_ci 1 rfl ci1 ?_
    refine E_is rfl (fun lv8 L8_4 kp8 => ?_)
    have L8_0 := kp8 0 _ (nbz rfl) rfl L5_0
    have L8_1 := kp8 1 _ (nbz rfl) rfl L5_1
    have L8_2 := kp8 2 _ (nbz rfl) rfl L5_2
    have L8_3 := kp8 3 _ (nbz rfl) rfl L5_3
    refine E_al rfl L8_0 ?_
    refine E_gr rfl hh7 (q := 93) rfl ?_
    refine E_ci 0 rfl ci0 ?_
    refine E_ci 0 rfl ci0 ?_
    refine E_ias rfl hh7 rfl (by omega) (by decide) ?_
    have hh9 : HH (pt h7 93 0 (nJ 0)) := HH_ptn hh7 (bd_u rfl (by omega)) (by omega) (by omega) (by omega)
    have fr9 : fr_g TM h0 (pt h7 93 0 (nJ 0)) := fr_ptr (l := 0) (u := 8) rfl (by omega) (by omega) fr7
    refine E_ci 0 rfl ci0 ?_
    refine E_is rfl (fun lv10 L10_5 kp10 => ?_)
    have L10_0 := kp10 0 _ (nbz rfl) rfl L8_0
    have L10_1 := kp10 1 _ (nbz rfl) rfl L8_1
    have L10_2 := kp10 2 _ (nbz rfl) rfl L8_2
    have L10_3 := kp10 3 _ (nbz rfl) rfl L8_3
    have L10_4 := kp10 4 _ (nbz rfl) rfl L8_4
    exact ws_out (P := gn h7 84 0) (by omega) (by omega) rfl fr7 hh7 (fun v h1 h2 => by have := dq7 v h1 (by omega); exact ⟨this.1, by omega⟩) (gn h7 84 0 + 1) (p := 0) (n := 1) (M := 1) lv10 (by omega) (BF_zero (by omega) hh7) L10_0 L10_2 L10_4 L10_5
  · refine E_ifF rfl (decide_eq_false hb6) ?_
    refine E_il rfl L5_3 ?_
    exact E_rti rfl ⟨hh1, fr1, _, rfl⟩
theorem nJ_mod {a b : Nat} (hb : 0 < b) (ha : a < 2147483648) (hb2 : b < 2147483648) : nJ a - nJ a / nJ b * nJ b = nJ (a % b) := by
  have h1 : (nJ a / nJ b) = nJ (a / b) := by
    apply Int32.toInt_inj.mp
    have := Nat.div_le_self a b
    rw [Int32.toInt_div, nJ_toInt ha, nJ_toInt hb2, nJ_toInt (by omega), ← Int.ofNat_tdiv]
    generalize a / b = q at this ⊢
    rw [Int.bmod_eq_of_le (by omega) (by omega)]
  have h2 : a / b * b ≤ a := Nat.div_mul_le_self a b
  rw [h1, nJ_mul, nJ_sub h2]
  congr 1
  have := Nat.div_add_mod a b
  rw [Nat.mul_comm] at this
  omega
theorem nJ_div {a b : Nat} (_ : 0 < b) (ha : a < 2147483648) (hb2 : b < 2147483648) : nJ a / nJ b = nJ (a / b) := by
  apply Int32.toInt_inj.mp
  have := Nat.div_le_self a b
  rw [Int32.toInt_div, nJ_toInt ha, nJ_toInt hb2, nJ_toInt (by omega), ← Int.ofNat_tdiv]
  generalize a / b = q at this ⊢
  rw [Int.bmod_eq_of_le (by omega) (by omega)]
theorem E_div {look : Nat → Option pm_I} {call : pm_Call} {Q : pm_H → Option Value → Prop} {pc n : Nat} {lv : List (Nat × Value)} {st : List Value} {w : pm_H × Nat × Nat} {op : Int32 → Int32 → Int32} {x y v : Int32} (h1 : look pc = some (.inl (s_div op n))) (h0 : ¬ y = 0) (e : op x y = v) (k : Ends look call (n, lv, .int v :: st, w) Q) : Ends look call (pc, lv, .int y :: .int x :: st, w) Q := by
  subst e; exact E_st h1 (by simp only [s_div, if_neg h0]) k
theorem tr_in {h0 : pm_H} {d n A x : Nat} {y so : Int32} (hn1 : 1 ≤ n) (hn5 : n ≤ 5) (hA : A ≤ 7776) (hx : x < A) (K : ∀ {h : pm_H} {so : Int32} (lv : List (Nat × Value)), HH h → fr_g TM h0 h → pm_get lv 0 = some (.ref 77) → pm_get lv 1 = some (.int (nJ n)) → pm_get lv 2 = some (.int y) → pm_get lv 3 = some (.int (nJ A)) → pm_get lv 4 = some (.int so) → pm_get lv 5 = some (.int (nJ (x + 1))) → Ends (pm_at tX9_trees) (pm_Rt pm_P (d + 29)) (59, lv, [], h, 0, 0) (TQ h0)) (j : Nat) : ∀ {h : pm_H} {i u : Nat} (lv : List (Nat × Value)), i + j = n - 1 → u < 7776 → HH h → fr_g TM h0 h → (∀ i1, i1 < i → gn h 95 i1 ≤ n) → pm_get lv 0 = some (.ref 77) → pm_get lv 1 = some (.int (nJ n)) → pm_get lv 2 = some (.int y) → pm_get lv 3 = some (.int (nJ A)) → pm_get lv 4 = some (.int so) → pm_get lv 5 = some (.int (nJ x)) → pm_get lv 6 = some (.int (nJ u)) → pm_get lv 7 = some (.int (nJ i)) → Ends (pm_at tX9_trees) (pm_Rt pm_P (d + 29)) (72, lv, [], h, 0, 0) (TQ h0) := by
  induction j with
  | zero =>
    intro h i u lv hj hu hh hfr hc L0 L1 L2 L3 L4 L5 L6 L7
    refine E_il rfl L7 ?_
    refine E_il rfl L1 ?_
    refine E_ci 1 rfl ci1 ?_
    refine E_bin rfl (nJ_sub (by omega)) ?_
    refine E_icT rfl (decide_eq_true ((nJ_le (by omega) (by omega)).mpr (by omega))) ?_
    refine E_al rfl L0 ?_
    refine E_il rfl L1 ?_
    refine E_ci 1 rfl ci1 ?_
    refine E_bin rfl (nJ_add _ _) ?_
    refine E_call rfl (Sp_le (by first | exact Nat.add_le_add_left (Nat.le_of_ble_eq_true rfl) _ | exact Nat.le_of_ble_eq_true rfl | omega) (sp_reads0 (d := 0) (N := n + 1) hh (by omega) (by omega) (fun j hj => by have := hc j (by omega); omega))) (chk77 hh rfl rfl (by show 0 ≤ 8; decide)) (fun h1 r1 => ?_)
    rintro ⟨e1, hh1, fq1, dq1⟩
    rw [e1]
    have fr1 : fr_g TM h0 h1 := fr_trans hfr (fr_wk rfl fq1)
    show Ends _ _ (114, lv, [], h1, 0, 0) _
    refine E_il rfl L4 ?_
    refine E_al rfl L0 ?_
    refine E_il rfl L1 ?_
    refine E_call rfl (Sp_le (by first | exact Nat.add_le_add_left (Nat.le_of_ble_eq_true rfl) _ | exact Nat.le_of_ble_eq_true rfl | omega) (sp_turnedIn (d := 0) hh1 (by omega) (fun v h1 h2 => (fun v h1 h2 => (dq1 v h1 h2).1) v h1 (by omega)))) (chk77 hh1 rfl rfl (by show 1 ≤ 8; decide)) (fun h2 r2 => ?_)
    rintro ⟨e2, x2, f2⟩
    rw [e2, f2]
    show Ends _ _ (121, lv, [.int x2, .int so], h1, 0, 0) _
    refine E_il rfl L2 ?_
    by_cases hb3 : ¬ x2 = y
    · refine E_icT rfl (decide_eq_true hb3) ?_
      refine E_ci 0 rfl ci0 ?_
      refine E_bin rfl rfl ?_
      refine E_is rfl (fun lv4 L4_4 kp4 => ?_)
      have L4_0 := kp4 0 _ (nbz rfl) rfl L0
      have L4_1 := kp4 1 _ (nbz rfl) rfl L1
      have L4_2 := kp4 2 _ (nbz rfl) rfl L2
      have L4_3 := kp4 3 _ (nbz rfl) rfl L3
      have L4_5 := kp4 5 _ (nbz rfl) rfl L5
      have L4_6 := kp4 6 _ (nbz rfl) rfl L6
      have L4_7 := kp4 7 _ (nbz rfl) rfl L7
      refine E_inc rfl L4_5 (nJ_inc _) (fun lv5 L5_5 kp5 => ?_)
      have L5_0 := kp5 0 _ (nbz rfl) rfl L4_0
      have L5_1 := kp5 1 _ (nbz rfl) rfl L4_1
      have L5_2 := kp5 2 _ (nbz rfl) rfl L4_2
      have L5_3 := kp5 3 _ (nbz rfl) rfl L4_3
      have L5_4 := kp5 4 _ (nbz rfl) rfl L4_4
      have L5_6 := kp5 6 _ (nbz rfl) rfl L4_6
      have L5_7 := kp5 7 _ (nbz rfl) rfl L4_7
      refine E_goto rfl ?_
      exact K lv5 hh1 fr1 L5_0 L5_1 L5_2 L5_3 L5_4 L5_5
    · refine E_icF rfl (decide_eq_false hb3) ?_
      refine E_ci 1 rfl ci1 ?_
      refine E_goto rfl ?_
      refine E_bin rfl rfl ?_
      refine E_is rfl (fun lv6 L6_4 kp6 => ?_)
      have L6_0 := kp6 0 _ (nbz rfl) rfl L0
      have L6_1 := kp6 1 _ (nbz rfl) rfl L1
      have L6_2 := kp6 2 _ (nbz rfl) rfl L2
      have L6_3 := kp6 3 _ (nbz rfl) rfl L3
      have L6_5 := kp6 5 _ (nbz rfl) rfl L5
      have L6_6 := kp6 6 _ (nbz rfl) rfl L6
      have L6_7 := kp6 7 _ (nbz rfl) rfl L7
      refine E_inc rfl L6_5 (nJ_inc _) (fun lv7 L7_5 kp7 => ?_)
      have L7_0 := kp7 0 _ (nbz rfl) rfl L6_0
      have L7_1 := kp7 1 _ (nbz rfl) rfl L6_1
      have L7_2 := kp7 2 _ (nbz rfl) rfl L6_2
      have L7_3 := kp7 3 _ (nbz rfl) rfl L6_3
      have L7_4 := kp7 4 _ (nbz rfl) rfl L6_4
      have L7_6 := kp7 6 _ (nbz rfl) rfl L6_6
      have L7_7 := kp7 7 _ (nbz rfl) rfl L6_7
      refine E_goto rfl ?_
      exact K lv7 hh1 fr1 L7_0 L7_1 L7_2 L7_3 L7_4 L7_5
  | succ j ih =>
    intro h i u lv hj hu hh hfr hc L0 L1 L2 L3 L4 L5 L6 L7
    refine E_il rfl L7 ?_
    refine E_il rfl L1 ?_
    refine E_ci 1 rfl ci1 ?_
    refine E_bin rfl (nJ_sub (by omega)) ?_
    refine E_icF rfl (decide_eq_false (fun q => absurd ((nJ_le (by omega) (by omega)).mp q) (by omega))) ?_
    refine E_al rfl L0 ?_
    refine E_gr rfl hh (q := 95) rfl ?_
    refine E_il rfl L7 ?_
    refine E_il rfl L6 ?_
    refine E_il rfl L1 ?_
    refine E_ci 1 rfl ci1 ?_
    refine E_bin rfl (nJ_add _ _) ?_
    have hmd := Nat.mod_lt u (show 0 < n + 1 by omega)
    refine E_div rfl (fun q => absurd ((nJ_eq0 (by omega)).mp q) (by omega)) (nJ_mod (by omega) (by omega) (by omega)) ?_
    refine E_ias rfl hh rfl (by omega) (by decide) ?_
    have hh1 : HH (pt h 95 i (nJ ((u % (n + 1))))) := HH_ptn hh (bd_u rfl (by omega)) (by omega) (by omega) (by omega)
    have fr1 : fr_g TM h0 (pt h 95 i (nJ ((u % (n + 1))))) := fr_ptr (l := 0) (u := 7) rfl (by omega) (by omega) hfr
    refine E_il rfl L6 ?_
    refine E_il rfl L1 ?_
    refine E_ci 1 rfl ci1 ?_
    refine E_bin rfl (nJ_add _ _) ?_
    have hdv := Nat.div_le_self u (n + 1)
    refine E_div rfl (fun q => absurd ((nJ_eq0 (by omega)).mp q) (by omega)) (nJ_div (by omega) (by omega) (by omega)) ?_
    refine E_is rfl (fun lv2 L2_6 kp2 => ?_)
    have L2_0 := kp2 0 _ (nbz rfl) rfl L0
    have L2_1 := kp2 1 _ (nbz rfl) rfl L1
    have L2_2 := kp2 2 _ (nbz rfl) rfl L2
    have L2_3 := kp2 3 _ (nbz rfl) rfl L3
    have L2_4 := kp2 4 _ (nbz rfl) rfl L4
    have L2_5 := kp2 5 _ (nbz rfl) rfl L5
    have L2_7 := kp2 7 _ (nbz rfl) rfl L7
    refine E_inc rfl L2_7 (nJ_inc _) (fun lv3 L3_7 kp3 => ?_)
    have L3_0 := kp3 0 _ (nbz rfl) rfl L2_0
    have L3_1 := kp3 1 _ (nbz rfl) rfl L2_1
    have L3_2 := kp3 2 _ (nbz rfl) rfl L2_2
    have L3_3 := kp3 3 _ (nbz rfl) rfl L2_3
    have L3_4 := kp3 4 _ (nbz rfl) rfl L2_4
    have L3_5 := kp3 5 _ (nbz rfl) rfl L2_5
    have L3_6 := kp3 6 _ (nbz rfl) rfl L2_6
    refine E_goto rfl ?_
    refine ih lv3 (by omega) (by omega) hh1 fr1 (fun i1 h1 => ?_) L3_0 L3_1 L3_2 L3_3 L3_4 L3_5 L3_6 L3_7
    by_cases e : i1 = i
    · rw [e, gn_ptn hh (bd_u rfl (by omega)) (by omega) (by omega) (by omega)]; omega
    · rw [gn_ne (fun _ => e)]; exact hc i1 (by omega)
end
