section
theorem pc1b_tab : ∀ n : Fin 9, 1 = pcn 1 (n.val + 1) := by decide +kernel
/-- nodes by rows: all that hang from the first p of the row, and those below k from the p-th -/
noncomputable def BM : List Rng := [(93, 0, 8)]
noncomputable def BF (h1 h : pm_H) (P p k cnt M : Nat) : Prop := HH h ∧ fr_g BM h1 h ∧ cnt = pcn M (P + 1) ∧ M < 512 ∧ isB M 0 = true ∧ (∀ v, 1 ≤ v → v ≤ P → (isB M v = true ↔ (∃ i, i < p ∧ gn h1 92 v = gn h 93 i) ∨ gn h1 92 v = gn h 93 p ∧ v < k)) ∧ (∀ i, i < cnt → gn h 93 i ≤ P ∧ isB M (gn h 93 i) = true) ∧ (∀ v, v ≤ P → isB M v = true → ∃ i, i < cnt ∧ gn h 93 i = v) ∧ ∀ i j, i < j → j < cnt → gn h 93 i ≠ gn h 93 j
theorem BF_skip {h1 h : pm_H} {P p k cnt M : Nat} (B : BF h1 h P p k cnt M) (he : ¬ gn h1 92 k = gn h 93 p) : BF h1 h P p (k + 1) cnt M := by
  obtain ⟨b1, b2, b3, b4, b5, b6, b7, b8, b9⟩ := B
  refine ⟨b1, b2, b3, b4, b5, fun v h1' h2' => ?_, b7, b8, b9⟩
  rw [b6 v h1' h2']
  constructor
  · rintro (q | ⟨q1, q2⟩)
    · exact .inl q
    · exact .inr ⟨q1, by omega⟩
  · rintro (q | ⟨q1, q2⟩)
    · exact .inl q
    · by_cases e : v = k
      · subst e; exact absurd q1 he
      · exact .inr ⟨q1, by omega⟩
theorem BF_next {h1 h : pm_H} {P p cnt M : Nat} (B : BF h1 h P p (P + 1) cnt M) : BF h1 h P (p + 1) 1 cnt M := by
  obtain ⟨b1, b2, b3, b4, b5, b6, b7, b8, b9⟩ := B
  refine ⟨b1, b2, b3, b4, b5, fun v h1' h2' => ?_, b7, b8, b9⟩
  rw [b6 v h1' h2']
  constructor
  · rintro (⟨i, q1, q2⟩ | ⟨q1, q2⟩)
    · exact .inl ⟨i, by omega, q2⟩
    · exact .inl ⟨p, by omega, q1⟩
  · rintro (⟨i, q1, q2⟩ | ⟨q1, q2⟩)
    · by_cases e : i = p
      · subst e; exact .inr ⟨q2, by omega⟩
      · exact .inl ⟨i, by omega, q2⟩
    · omega
theorem BF_new {h1 h : pm_H} {P p k cnt M : Nat} (B : BF h1 h P p k cnt M) (hp : p < cnt) (hk : 1 ≤ k) (hkP : k ≤ P) (he : gn h1 92 k = gn h 93 p) : isB M k = false := by
  obtain ⟨b1, b2, b3, b4, b5, b6, b7, b8, b9⟩ := B
  cases hz : isB M k with
  | false => rfl
  | true =>
    rcases (b6 k hk hkP).mp hz with ⟨i, q1, q2⟩ | ⟨q1, q2⟩
    · exact absurd (q2.symm.trans he) (b9 i p q1 hp)
    · omega
theorem BF_add {h1 h : pm_H} {P p k cnt M : Nat} (hP8 : P ≤ 8) (B : BF h1 h P p k cnt M) (hp : p < cnt) (hk : 1 ≤ k) (hkP : k ≤ P) (he : gn h1 92 k = gn h 93 p) : cnt ≤ 8 ∧ BF h1 (pt h 93 cnt (nJ k)) P p (k + 1) (cnt + 1) (M + 2 ^ k) := by
  have hz := BF_new B hp hk hkP he
  obtain ⟨b1, b2, b3, b4, b5, b6, b7, b8, b9⟩ := B
  have hlt := pcn_lt hz (n := P + 1) (by omega)
  have hc8 : cnt ≤ 8 := by omega
  have hh1 : HH (pt h 93 cnt (nJ k)) := HH_ptn b1 (bd_u rfl (by omega)) (by omega) (by omega) (by omega)
  have eN : gn (pt h 93 cnt (nJ k)) 93 cnt = k := gn_ptn b1 (bd_u rfl (by omega)) (by omega) (by omega) (by omega)
  have eO : ∀ i, i < cnt → gn (pt h 93 cnt (nJ k)) 93 i = gn h 93 i := fun i hi => gn_ne (by omega)
  have hB : ∀ v, v ≤ P → isB (M + 2 ^ k) v = (v == k || isB M v) := fun v hv => isB_add b4 (by omega) (by omega) hz
  refine ⟨hc8, hh1, fr_ptr (l := 0) (u := 8) rfl (by omega) (by omega) b2, ?_, isB_add_lt b4 (by omega) hz, ?_, fun v h1' h2' => ?_, fun i hi => ?_, fun v hv hv2 => ?_, fun i j hij hj => ?_⟩
  · rw [pcn_add b4 (by omega) hz (by omega), if_pos (by omega), b3]
  · rw [hB 0 (by omega), b5, Bool.or_true]
  · rw [hB v h2', Bool.or_eq_true, b6 v h1' h2', beq_iff_eq, eO p hp]
    constructor
    · rintro (q | ⟨i, q1, q2⟩ | ⟨q1, q2⟩)
      · subst q; exact .inr ⟨he, by omega⟩
      · exact .inl ⟨i, q1, by rw [eO i (by omega)]; exact q2⟩
      · exact .inr ⟨q1, by omega⟩
    · rintro (⟨i, q1, q2⟩ | ⟨q1, q2⟩)
      · rw [eO i (by omega)] at q2
        exact .inr (.inl ⟨i, q1, q2⟩)
      · by_cases e : v = k
        · exact .inl e
        · exact .inr (.inr ⟨q1, by omega⟩)
  · by_cases e : i = cnt
    · rw [e, eN]; exact ⟨hkP, by rw [hB k hkP, beq_self_eq_true]; rfl⟩
    · rw [eO i (by omega)]
      have := b7 i (by omega)
      exact ⟨this.1, by rw [hB _ this.1, this.2, Bool.or_true]⟩
  · rw [hB v hv, Bool.or_eq_true, beq_iff_eq] at hv2
    by_cases e : v = k
    · exact ⟨cnt, by omega, by rw [eN, e]⟩
    · obtain ⟨i, q1, q2⟩ := b8 v hv (hv2.resolve_left e)
      exact ⟨i, by omega, by rw [eO i q1]; exact q2⟩
  · by_cases e : j = cnt
    · rw [e, eN, eO i (by omega)]
      intro q
      have := (b7 i (by omega)).2
      rw [q, hz] at this
      cases this
    · rw [eO i (by omega), eO j (by omega)]
      exact b9 i j hij (by omega)
theorem BF_reach {h1 h : pm_H} {P p cnt M : Nat} (B : BF h1 h P p 1 cnt M) (hpc : cnt ≤ p) (hF : ∀ v, 1 ≤ v → v ≤ P → gn h1 92 v ≤ P) : ∀ (d v : Nat), v ≤ P → dep (gn h1 92) d v → isB M v = true
  | 0, v, _, hd => by
    have hd : v = 0 := hd
    rw [hd]
    exact B.2.2.2.2.1
  | d + 1, v, hv, hd => by
    by_cases e : v = 0
    · rw [e]; exact B.2.2.2.2.1
    · have h0 : dep (gn h1 92) d (gn h1 92 v) := hd.resolve_left e
      have h1' := BF_reach B hpc hF d _ (hF v (by omega) hv) h0
      obtain ⟨i, q1, q2⟩ := B.2.2.2.2.2.2.2.1 _ (hF v (by omega) hv) h1'
      exact (B.2.2.2.2.2.1 v (by omega) hv).mpr (.inl ⟨i, by omega, q2.symm⟩)
theorem BF_lt {h1 h : pm_H} {P p cnt M : Nat} (B : BF h1 h P p 1 cnt M) (hpP : p ≤ P) (hF : ∀ v, 1 ≤ v → v ≤ P → dep (hg h1) 8 v ∧ gn h1 92 v ≤ P) : p < cnt := by
  by_cases hpc : p < cnt
  · exact hpc
  · exfalso
    have hall : ∀ v, v < P + 1 → isB M v = true := fun v hv => by
      by_cases e : v = 0
      · rw [e]; exact B.2.2.2.2.1
      · have := (hF v (by omega) (by omega)).1
        rw [hg_gn] at this
        exact BF_reach B (by omega) (fun v a b => (hF v a b).2) 8 v (by omega) this
    have h2 : ∀ n, n ≤ P + 1 → pcn M n = n := by
      intro n
      induction n with
      | zero => intro _; rfl
      | succ n ih => intro hn; unfold pcn; rw [ih (by omega), if_pos (hall n (by omega))]
    have h3 := h2 (P + 1) (Nat.le_refl _)
    have h4 := B.2.2.1
    omega
theorem BF_zero {h1 : pm_H} {P : Nat} (hP8 : P ≤ 8) (hh : HH h1) : BF h1 (pt h1 93 0 (nJ 0)) P 0 1 1 1 := by
  have hh2 : HH (pt h1 93 0 (nJ 0)) := HH_ptn hh (bd_u rfl (by omega)) (by omega) (by omega) (by omega)
  have e0 : gn (pt h1 93 0 (nJ 0)) 93 0 = 0 := gn_ptn hh (bd_u rfl (by omega)) (by omega) (by omega) (by omega)
  have h1b : ∀ v, v ≤ P → isB 1 v = true → v = 0 := fun v hv q => by
    by_cases e : v = 0
    · exact e
    · rw [one_bit ⟨v, by omega⟩ e] at q; cases q
  refine ⟨hh2, fr_ptr (l := 0) (u := 8) rfl (by omega) (by omega) (fr_rf _ _), ?_, by omega, rfl, fun v a b => ⟨fun q => ?_, fun q => ?_⟩, fun i hi => ?_, fun v hv q => ?_, fun i j a b => by omega⟩
  · exact pc1b_tab ⟨P, by omega⟩
  · have := h1b v b q; omega
  · rcases q with ⟨i, q1, q2⟩ | ⟨q1, q2⟩
    · omega
    · omega
  · have : i = 0 := by omega
    rw [this, e0]; exact ⟨Nat.zero_le _, rfl⟩
  · exact ⟨0, by omega, by rw [e0]; exact (h1b v hv q).symm⟩
theorem ws_in {h0 gA : pm_H} {d P c : Nat} (hP8 : P ≤ 8) (hc : c < P) (hP : gn gA 84 0 = P) (hf1 : fr_g TM h0 gA) (hgA : HH gA) (hF : ∀ v, 1 ≤ v → v ≤ P → dep (hg gA) 8 v ∧ gn gA 92 v ≤ P) {p : Nat} (hpP : p ≤ P) (K : ∀ {h : pm_H} {n M : Nat} (lv : List (Nat × Value)), p < n → BF gA h P (p + 1) 1 n M → pm_get lv 0 = some (.ref 77) → pm_get lv 2 = some (.int (nJ c)) → pm_get lv 4 = some (.int (nJ n)) → pm_get lv 5 = some (.int (nJ (p + 1))) → Ends (pm_at tX9_wish) (pm_Rt pm_P (d + 29)) (48, lv, [], h, 0, 0) (TQ h0)) (j : Nat) : ∀ {h : pm_H} {k n M : Nat} (lv : List (Nat × Value)), k + j = P + 1 → 1 ≤ k → p < n → BF gA h P p k n M → pm_get lv 0 = some (.ref 77) → pm_get lv 2 = some (.int (nJ c)) → pm_get lv 4 = some (.int (nJ n)) → pm_get lv 5 = some (.int (nJ p)) → pm_get lv 6 = some (.int (nJ k)) → Ends (pm_at tX9_wish) (pm_Rt pm_P (d + 29)) (60, lv, [], h, 0, 0) (TQ h0) := by
  induction j with
  | zero =>
    intro h k n M lv hj hk hp B L0 L2 L4 L5 L6
    have hpe : gn h 84 0 = P := by rw [fr_gn B.2.1 (rg_no rfl _)]; exact hP
    refine E_il rfl L6 ?_
    refine E_al rfl L0 ?_
    refine E_call rfl (sp_places B.1) (chk77 B.1 rfl rfl (by show 1 ≤ 8; decide)) (fun h1 r1 => ?_)
    rintro ⟨e1, f1, c1⟩
    rw [e1, f1]
    show Ends _ _ (66, lv, [.int (nJ (gn h 84 0)), .int (nJ k)], h, 0, 0) _
    refine E_icT rfl (decide_eq_true ((nJ_lt (by omega) (by omega)).mpr (by omega))) ?_
    refine E_inc rfl L5 (nJ_inc _) (fun lv2 L2_5 kp2 => ?_)
    have L2_0 := kp2 0 _ (by decide) rfl L0
    have L2_2 := kp2 2 _ (by decide) rfl L2
    have L2_4 := kp2 4 _ (by decide) rfl L4
    have L2_6 := kp2 6 _ (by decide) rfl L6
    refine E_goto rfl ?_
    exact K lv2 hp (BF_next ((show k = P + 1 by omega) ▸ B)) L2_0 L2_2 L2_4 L2_5
  | succ j ih =>
    intro h k n M lv hj hk hp B L0 L2 L4 L5 L6
    have hpe : gn h 84 0 = P := by rw [fr_gn B.2.1 (rg_no rfl _)]; exact hP
    refine E_il rfl L6 ?_
    refine E_al rfl L0 ?_
    refine E_call rfl (sp_places B.1) (chk77 B.1 rfl rfl (by show 1 ≤ 8; decide)) (fun h1 r1 => ?_)
    rintro ⟨e1, f1, c1⟩
    rw [e1, f1]
    show Ends _ _ (66, lv, [.int (nJ (gn h 84 0)), .int (nJ k)], h, 0, 0) _
    refine E_icF rfl (decide_eq_false (fun q => absurd ((nJ_lt (by omega) (by omega)).mp q) (by omega))) ?_
    have hk8 : gn gA 92 k ≤ 8 := gn_hi hgA (bd_u rfl (by omega)) (by decide)
    have hcn : n ≤ 9 := by have := B.2.2.1; have := pcn_le M (P + 1); omega
    refine E_al rfl L0 ?_
    refine E_gr rfl B.1 (q := 92) rfl ?_
    refine E_il rfl L6 ?_
    refine E_ial rfl B.1 rfl (by omega) (by decide) (show gi h 92 k = nJ ((gn gA 92 k)) from by rw [fr_gi B.2.1 (rg_no rfl _)]; exact gi_gn hgA (bd_u rfl (by omega)) (by decide)) ?_
    refine E_al rfl L0 ?_
    refine E_gr rfl B.1 (q := 93) rfl ?_
    refine E_il rfl L5 ?_
    have b2 : gn h 93 p ≤ 8 := gn_hi B.1 (bd_u rfl (by omega)) (by decide)
    refine E_ial rfl B.1 rfl (by omega) (by decide) (gi_gn B.1 (bd_u rfl (by omega)) (by decide)) ?_
    by_cases hb3 : (gn gA 92 k) = (gn h 93 p)
    · refine E_icT rfl (decide_eq_true ((nJ_eq (by omega) (by omega)).mpr hb3)) ?_
      have hadd := BF_add hP8 B hp hk (by omega) hb3
      refine E_il rfl L6 ?_
      refine E_il rfl L2 ?_
      refine E_ci 1 rfl (by decide) ?_
      refine E_bin rfl (nJ_add _ _) ?_
      by_cases hb4 : ¬ k = (c + 1)
      · refine E_icT rfl (decide_eq_true (fun q => hb4 ((nJ_eq (by omega) (by omega)).mp q))) ?_
        refine E_al rfl L0 ?_
        refine E_gr rfl B.1 (q := 93) rfl ?_
        refine E_il rfl L4 ?_
        refine E_il rfl L6 ?_
        refine E_ias rfl B.1 rfl (by omega) (by decide) ?_
        have hh5 : HH (pt h 93 n (nJ k)) := HH_ptn B.1 (bd_u rfl (by omega)) (by omega) (by omega) (by omega)
        refine E_inc rfl L4 (nJ_inc _) (fun lv6 L6_4 kp6 => ?_)
        have L6_0 := kp6 0 _ (by decide) rfl L0
        have L6_2 := kp6 2 _ (by decide) rfl L2
        have L6_5 := kp6 5 _ (by decide) rfl L5
        have L6_6 := kp6 6 _ (by decide) rfl L6
        refine E_inc rfl L6_6 (nJ_inc _) (fun lv7 L7_6 kp7 => ?_)
        have L7_0 := kp7 0 _ (by decide) rfl L6_0
        have L7_2 := kp7 2 _ (by decide) rfl L6_2
        have L7_4 := kp7 4 _ (by decide) rfl L6_4
        have L7_5 := kp7 5 _ (by decide) rfl L6_5
        refine E_goto rfl ?_
        exact ih lv7 (by omega) (by omega) (by omega) hadd.2 L7_0 L7_2 L7_4 L7_5 L7_6
      · refine E_icF rfl (decide_eq_false (fun q => hb4 (fun z => q ((nJ_eq (by omega) (by omega)).mpr z)))) ?_
        refine E_il rfl L5 ?_
        refine E_ci 1 rfl (by decide) ?_
        refine E_bin rfl (nJ_add _ _) ?_
        exact E_rti rfl ⟨B.1, fr_trans hf1 (fr_wk rfl B.2.1), _, rfl⟩
    · refine E_icF rfl (decide_eq_false (fun q => hb3 ((nJ_eq (by omega) (by omega)).mp q))) ?_
      refine E_goto rfl ?_
      refine E_inc rfl L6 (nJ_inc _) (fun lv8 L8_6 kp8 => ?_)
      have L8_0 := kp8 0 _ (by decide) rfl L0
      have L8_2 := kp8 2 _ (by decide) rfl L2
      have L8_4 := kp8 4 _ (by decide) rfl L4
      have L8_5 := kp8 5 _ (by decide) rfl L5
      refine E_goto rfl ?_
      exact ih lv8 (by omega) (by omega) hp (BF_skip B hb3) L8_0 L8_2 L8_4 L8_5 L8_6
end
