section
/-! by hand: wish, trees (written by gen_t11.py) -/
theorem pc1b_tab : ∀ n : Fin 9, 1 = pcn 1 (n.val + 1) := by decide +kernel
/-- nodes by rows: all that hang from the first p of the row, and those below k from the p-th -/
noncomputable def BM : List Rng := [(93, 0, 8)]
noncomputable def BF (h1 h : pm_H) (P p k cnt M : Nat) : Prop := HH h ∧ fr_g BM h1 h ∧ cnt = pcn M (P + 1) ∧ M < 512 ∧ isB M 0 = true ∧ (∀ v, 1 ≤ v → v ≤ P → (isB M v = true ↔ (∃ i, i < p ∧ gn h1 92 v = gn h 93 i) ∨ gn h1 92 v = gn h 93 p ∧ v < k)) ∧ (∀ i, i < cnt → gn h 93 i ≤ P ∧ isB M (gn h 93 i) = true) ∧ (∀ v, v ≤ P → isB M v = true → ∃ i, i < cnt ∧ gn h 93 i = v) ∧ ∀ i j, i < j → j < cnt → gn h 93 i ≠ gn h 93 j
theorem BF_skip {h1 h : pm_H} {P p k cnt M : Nat} (B : BF h1 h P p k cnt M) (he : ¬ gn h1 92 k = gn h 93 p) : BF h1 h P p (k + 1) cnt M := by
  obtain ⟨b1, b2, b3, b4, b5, b6, b7, b8, b9⟩ := B
  refine ⟨b1, b2, b3, b4, b5, fun v h1' h2' => ?_, b7, b8, b9⟩
  rw [b6 v h1' h2']
  constructor
  · rintro (q | ⟨q1, q2⟩)
    · exact .inl q
    · exact .inr ⟨q1, by omega⟩
  · rintro (q | ⟨q1, q2⟩)
    · exact .inl q
    · by_cases e : v = k
      · subst e; exact absurd q1 he
      · exact .inr ⟨q1, by omega⟩
theorem BF_next {h1 h : pm_H} {P p cnt M : Nat} (B : BF h1 h P p (P + 1) cnt M) : BF h1 h P (p + 1) 1 cnt M := by
  obtain ⟨b1, b2, b3, b4, b5, b6, b7, b8, b9⟩ := B
  refine ⟨b1, b2, b3, b4, b5, fun v h1' h2' => ?_, b7, b8, b9⟩
  rw [b6 v h1' h2']
  constructor
  · rintro (⟨i, q1, q2⟩ | ⟨q1, q2⟩)
    · exact .inl ⟨i, by omega, q2⟩
    · exact .inl ⟨p, by omega, q1⟩
  · rintro (⟨i, q1, q2⟩ | ⟨q1, q2⟩)
    · by_cases e : i = p
      · subst e; exact .inr ⟨q2, by omega⟩
      · exact .inl ⟨i, by omega, q2⟩
    · omega
theorem BF_new {h1 h : pm_H} {P p k cnt M : Nat} (B : BF h1 h P p k cnt M) (hp : p < cnt) (hk : 1 ≤ k) (hkP : k ≤ P) (he : gn h1 92 k = gn h 93 p) : isB M k = false := by
  obtain ⟨b1, b2, b3, b4, b5, b6, b7, b8, b9⟩ := B
  cases hz : isB M k with
  | false => rfl
  | true =>
    rcases (b6 k hk hkP).mp hz with ⟨i, q1, q2⟩ | ⟨q1, q2⟩
    · exact absurd (q2.symm.trans he) (b9 i p q1 hp)
    · omega
theorem BF_add {h1 h : pm_H} {P p k cnt M : Nat} (hP8 : P ≤ 8) (B : BF h1 h P p k cnt M) (hp : p < cnt) (hk : 1 ≤ k) (hkP : k ≤ P) (he : gn h1 92 k = gn h 93 p) : cnt ≤ 8 ∧ BF h1 (pt h 93 cnt (nJ k)) P p (k + 1) (cnt + 1) (M + 2 ^ k) := by
  have hz := BF_new B hp hk hkP he
  obtain ⟨b1, b2, b3, b4, b5, b6, b7, b8, b9⟩ := B
  have hlt := pcn_lt hz (n := P + 1) (by first | decide | with_reducible assumption | omega)
  have hc8 : cnt ≤ 8 := by omega
  have hh1 : HH (pt h 93 cnt (nJ k)) := HH_ptn b1 (bd_u rfl (by first | decide | with_reducible assumption | omega)) (by first | decide | with_reducible assumption | omega) (by first | decide | with_reducible assumption | omega) (by first | decide | with_reducible assumption | omega)
  have eN : gn (pt h 93 cnt (nJ k)) 93 cnt = k := gn_ptn b1 (bd_u rfl (by first | decide | with_reducible assumption | omega)) (by first | decide | with_reducible assumption | omega) (by first | decide | with_reducible assumption | omega) (by first | decide | with_reducible assumption | omega)
  have eO : ∀ i, i < cnt → gn (pt h 93 cnt (nJ k)) 93 i = gn h 93 i := fun i hi => gn_ne (by first | exact gxx rfl | omega)
  have hB : ∀ v, v ≤ P → isB (M + 2 ^ k) v = (v == k || isB M v) := fun v hv => isB_add b4 (by first | decide | with_reducible assumption | omega) (by first | decide | with_reducible assumption | omega) hz
  refine ⟨hc8, hh1, fr_ptr (l := 0) (u := 8) rfl (by first | decide | with_reducible assumption | omega) (by first | decide | with_reducible assumption | omega) b2, ?_, isB_add_lt b4 (by first | decide | with_reducible assumption | omega) hz, ?_, fun v h1' h2' => ?_, fun i hi => ?_, fun v hv hv2 => ?_, fun i j hij hj => ?_⟩
  · rw [pcn_add b4 (by first | decide | with_reducible assumption | omega) hz (by first | decide | with_reducible assumption | omega), if_pos (by first | decide | with_reducible assumption | omega), b3]
  · rw [hB 0 (by first | decide | with_reducible assumption | omega), b5, Bool.or_true]
  · rw [hB v h2', Bool.or_eq_true, b6 v h1' h2', beq_iff_eq, eO p hp]
    constructor
    · rintro (q | ⟨i, q1, q2⟩ | ⟨q1, q2⟩)
      · subst q; exact .inr ⟨he, by omega⟩
      · exact .inl ⟨i, q1, by rw [eO i (by first | decide | with_reducible assumption | omega)]; exact q2⟩
      · exact .inr ⟨q1, by omega⟩
    · rintro (⟨i, q1, q2⟩ | ⟨q1, q2⟩)
      · rw [eO i (by first | decide | with_reducible assumption | omega)] at q2
        exact .inr (.inl ⟨i, q1, q2⟩)
      · by_cases e : v = k
        · exact .inl e
        · exact .inr (.inr ⟨q1, by omega⟩)
  · by_cases e : i = cnt
    · rw [e, eN]; exact ⟨hkP, by rw [hB k hkP, beq_self_eq_true]; rfl⟩
    · rw [eO i (by first | decide | with_reducible assumption | omega)]
      have := b7 i (by first | decide | with_reducible assumption | omega)
      exact ⟨this.1, by rw [hB _ this.1, this.2, Bool.or_true]⟩
  · rw [hB v hv, Bool.or_eq_true, beq_iff_eq] at hv2
    by_cases e : v = k
    · exact ⟨cnt, by omega, by rw [eN, e]⟩
    · obtain ⟨i, q1, q2⟩ := b8 v hv (hv2.resolve_left e)
      exact ⟨i, by omega, by rw [eO i q1]; exact q2⟩
  · by_cases e : j = cnt
    · rw [e, eN, eO i (by first | decide | with_reducible assumption | omega)]
      intro q
      have := (b7 i (by first | decide | with_reducible assumption | omega)).2
      rw [q, hz] at this
      cases this
    · rw [eO i (by first | decide | with_reducible assumption | omega), eO j (by first | decide | with_reducible assumption | omega)]
      exact b9 i j hij (by first | decide | with_reducible assumption | omega)
theorem BF_reach {h1 h : pm_H} {P p cnt M : Nat} (B : BF h1 h P p 1 cnt M) (hpc : cnt ≤ p) (hF : ∀ v, 1 ≤ v → v ≤ P → gn h1 92 v ≤ P) : ∀ (d v : Nat), v ≤ P → dep (gn h1 92) d v → isB M v = true
  | 0, v, _, hd => by
    have hd : v = 0 := hd
    rw [hd]
    exact B.2.2.2.2.1
  | d + 1, v, hv, hd => by
    by_cases e : v = 0
    · rw [e]; exact B.2.2.2.2.1
    · have h0 : dep (gn h1 92) d (gn h1 92 v) := hd.resolve_left e
      have h1' := BF_reach B hpc hF d _ (hF v (by first | decide | with_reducible assumption | omega) hv) h0
      obtain ⟨i, q1, q2⟩ := B.2.2.2.2.2.2.2.1 _ (hF v (by first | decide | with_reducible assumption | omega) hv) h1'
      exact (B.2.2.2.2.2.1 v (by first | decide | with_reducible assumption | omega) hv).mpr (.inl ⟨i, by omega, q2.symm⟩)
theorem BF_lt {h1 h : pm_H} {P p cnt M : Nat} (B : BF h1 h P p 1 cnt M) (hpP : p ≤ P) (hF : ∀ v, 1 ≤ v → v ≤ P → dep (hg h1) 8 v ∧ gn h1 92 v ≤ P) : p < cnt := by
  by_cases hpc : p < cnt
  · exact hpc
  · exfalso
    have hall : ∀ v, v < P + 1 → isB M v = true := fun v hv => by
      by_cases e : v = 0
      · rw [e]; exact B.2.2.2.2.1
      · have := (hF v (by first | decide | with_reducible assumption | omega) (by first | decide | with_reducible assumption | omega)).1
        rw [hg_gn] at this
        exact BF_reach B (by first | decide | with_reducible assumption | omega) (fun v a b => (hF v a b).2) 8 v (by first | decide | with_reducible assumption | omega) this
    have h2 : ∀ n, n ≤ P + 1 → pcn M n = n := by
      intro n
      induction n with
      | zero => intro _; rfl
      | succ n ih => intro hn; unfold pcn; rw [ih (by first | decide | with_reducible assumption | omega), if_pos (hall n (by first | decide | with_reducible assumption | omega))]
    have h3 := h2 (P + 1) (Nat.le_refl _)
    have h4 := B.2.2.1
    omega
theorem BF_zero {h1 : pm_H} {P : Nat} (hP8 : P ≤ 8) (hh : HH h1) : BF h1 (pt h1 93 0 (nJ 0)) P 0 1 1 1 := by
  have hh2 : HH (pt h1 93 0 (nJ 0)) := HH_ptn hh (bd_u rfl (by first | decide | with_reducible assumption | omega)) (by first | decide | with_reducible assumption | omega) (by first | decide | with_reducible assumption | omega) (by first | decide | with_reducible assumption | omega)
  have e0 : gn (pt h1 93 0 (nJ 0)) 93 0 = 0 := gn_ptn hh (bd_u rfl (by first | decide | with_reducible assumption | omega)) (by first | decide | with_reducible assumption | omega) (by first | decide | with_reducible assumption | omega) (by first | decide | with_reducible assumption | omega)
  have h1b : ∀ v, v ≤ P → isB 1 v = true → v = 0 := fun v hv q => by
    by_cases e : v = 0
    · exact e
    · rw [one_bit ⟨v, by omega⟩ e] at q; cases q
  refine ⟨hh2, fr_ptr (l := 0) (u := 8) rfl (by first | decide | with_reducible assumption | omega) (by first | decide | with_reducible assumption | omega) (fr_rf _ _), ?_, by omega, rfl, fun v a b => ⟨fun q => ?_, fun q => ?_⟩, fun i hi => ?_, fun v hv q => ?_, fun i j a b => by omega⟩
  · exact pc1b_tab ⟨P, by omega⟩
  · have := h1b v b q; omega
  · rcases q with ⟨i, q1, q2⟩ | ⟨q1, q2⟩
    · omega
    · omega
  · have : i = 0 := by omega
    rw [this, e0]; exact ⟨Nat.zero_le _, rfl⟩
  · exact ⟨0, by omega, by rw [e0]; exact (h1b v hv q).symm⟩
theorem ws_in {h0 gA : pm_H} {d P c : Nat} (hP8 : P ≤ 8) (hc : c < P) (hP : gn gA 84 0 = P) (hf1 : fr_g TM h0 gA) (hgA : HH gA) (hF : ∀ v, 1 ≤ v → v ≤ P → dep (hg gA) 8 v ∧ gn gA 92 v ≤ P) {p : Nat} (hpP : p ≤ P) (K : ∀ {h : pm_H} {n M : Nat} (lv : List (Nat × Value)), p < n → BF gA h P (p + 1) 1 n M → pm_get lv 0 = some (.ref 77) → pm_get lv 2 = some (.int (nJ c)) → pm_get lv 4 = some (.int (nJ n)) → pm_get lv 5 = some (.int (nJ (p + 1))) → Ends (pm_at tX9_wish) (pm_Rt pm_P (d + 29)) (48, lv, [], h, 0, 0) (TQ h0)) (j : Nat) : ∀ {h : pm_H} {k n M : Nat} (lv : List (Nat × Value)), k + j = P + 1 → 1 ≤ k → p < n → BF gA h P p k n M → pm_get lv 0 = some (.ref 77) → pm_get lv 2 = some (.int (nJ c)) → pm_get lv 4 = some (.int (nJ n)) → pm_get lv 5 = some (.int (nJ p)) → pm_get lv 6 = some (.int (nJ k)) → Ends (pm_at tX9_wish) (pm_Rt pm_P (d + 29)) (60, lv, [], h, 0, 0) (TQ h0) := by
  induction j with
  | zero =>
    intro h k n M lv hj hk hp B L0 L2 L4 L5 L6
    have hpe : gn h 84 0 = P := by rw [fr_gn B.2.1 (rg_no rfl _)]; exact hP
    refine E_il rfl L6 ?_
    refine E_al rfl L0 ?_
    refine E_call rfl (sp_places B.1) (chk77 B.1 rfl rfl (by show 1 ≤ 8; decide)) (fun h1 r1 => ?_)
    rintro ⟨e1, f1, c1⟩
    rw [e1, f1]
    show Ends _ _ (66, lv, [.int (nJ (gn h 84 0)), .int (nJ k)], h, 0, 0) _
    refine E_icT rfl (decide_eq_true ((nJ_lt (by first | decide | with_reducible assumption | omega) (by first | decide | with_reducible assumption | omega)).mpr (by first | decide | with_reducible assumption | omega))) ?_
    refine E_inc rfl L5 (nJ_inc _) (fun lv2 L2_5 kp2 => ?_)
    have L2_0 := kp2 0 _ (nbz rfl) rfl L0
    have L2_2 := kp2 2 _ (nbz rfl) rfl L2
    have L2_4 := kp2 4 _ (nbz rfl) rfl L4
    have L2_6 := kp2 6 _ (nbz rfl) rfl L6
    refine E_goto rfl ?_
    exact K lv2 hp (BF_next ((show k = P + 1 by omega) ▸ B)) L2_0 L2_2 L2_4 L2_5
  | succ j ih =>
    intro h k n M lv hj hk hp B L0 L2 L4 L5 L6
    have hpe : gn h 84 0 = P := by rw [fr_gn B.2.1 (rg_no rfl _)]; exact hP
    refine E_il rfl L6 ?_
    refine E_al rfl L0 ?_
    refine E_call rfl (sp_places B.1) (chk77 B.1 rfl rfl (by show 1 ≤ 8; decide)) (fun h1 r1 => ?_)
    rintro ⟨e1, f1, c1⟩
    rw [e1, f1]
    show Ends _ _ (66, lv, [.int (nJ (gn h 84 0)), .int (nJ k)], h, 0, 0) _
    refine E_icF rfl (decide_eq_false (fun q => absurd ((nJ_lt (by first | decide | with_reducible assumption | omega) (by first | decide | with_reducible assumption | omega)).mp q) (by first | decide | with_reducible assumption | omega))) ?_
    have hk8 : gn gA 92 k ≤ 8 := gn_hi hgA (bd_u rfl (by first | decide | with_reducible assumption | omega)) (by decide)
    have hcn : n ≤ 9 := by have := B.2.2.1; have := pcn_le M (P + 1); omega
    refine E_al rfl L0 ?_
    refine E_gr rfl B.1 (q := 92) rfl ?_
    refine E_il rfl L6 ?_
    refine E_ial rfl B.1 rfl (by first | decide | with_reducible assumption | omega) (by decide) (show gi h 92 k = nJ ((gn gA 92 k)) from by rw [fr_gi B.2.1 (rg_no rfl _)]; exact gi_gn hgA (bd_u rfl (by first | decide | with_reducible assumption | omega)) (by decide)) ?_
    refine E_al rfl L0 ?_
    refine E_gr rfl B.1 (q := 93) rfl ?_
    refine E_il rfl L5 ?_
    have b2 : gn h 93 p ≤ 8 := gn_hi B.1 (bd_u rfl (by first | decide | with_reducible assumption | omega)) (by decide)
    refine E_ial rfl B.1 rfl (by first | decide | with_reducible assumption | omega) (by decide) (gi_gn B.1 (bd_u rfl (by first | decide | with_reducible assumption | omega)) (by decide)) ?_
    by_cases hb3 : (gn gA 92 k) = (gn h 93 p)
    · refine E_icT rfl (decide_eq_true ((nJ_eq (by first | decide | with_reducible assumption | omega) (by first | decide | with_reducible assumption | omega)).mpr hb3)) ?_
      have hadd := BF_add hP8 B hp hk (by first | decide | with_reducible assumption | omega) hb3
      refine E_il rfl L6 ?_
      refine E_il rfl L2 ?_
      refine E_ci 1 rfl ci1 ?_
      refine E_bin rfl (nJ_add _ _) ?_
      by_cases hb4 : ¬ k = (c + 1)
      · refine E_icT rfl (decide_eq_true (fun q => hb4 ((nJ_eq (by first | decide | with_reducible assumption | omega) (by first | decide | with_reducible assumption | omega)).mp q))) ?_
        refine E_al rfl L0 ?_
        refine E_gr rfl B.1 (q := 93) rfl ?_
        refine E_il rfl L4 ?_
        refine E_il rfl L6 ?_
        refine E_ias rfl B.1 rfl (by first | decide | with_reducible assumption | omega) (by decide) ?_
        have hh5 : HH (pt h 93 n (nJ k)) := HH_ptn B.1 (bd_u rfl (by first | decide | with_reducible assumption | omega)) (by first | decide | with_reducible assumption | omega) (by first | decide | with_reducible assumption | omega) (by first | decide | with_reducible assumption | omega)
        refine E_inc rfl L4 (nJ_inc _) (fun lv6 L6_4 kp6 => ?_)
        have L6_0 := kp6 0 _ (nbz rfl) rfl L0
        have L6_2 := kp6 2 _ (nbz rfl) rfl L2
        have L6_5 := kp6 5 _ (nbz rfl) rfl L5
        have L6_6 := kp6 6 _ (nbz rfl) rfl L6
        refine E_inc rfl L6_6 (nJ_inc _) (fun lv7 L7_6 kp7 => ?_)
        have L7_0 := kp7 0 _ (nbz rfl) rfl L6_0
        have L7_2 := kp7 2 _ (nbz rfl) rfl L6_2
        have L7_4 := kp7 4 _ (nbz rfl) rfl L6_4
        have L7_5 := kp7 5 _ (nbz rfl) rfl L6_5
        refine E_goto rfl ?_
        exact ih lv7 (by first | decide | with_reducible assumption | omega) (by first | decide | with_reducible assumption | omega) (by first | decide | with_reducible assumption | omega) hadd.2 L7_0 L7_2 L7_4 L7_5 L7_6
      · refine E_icF rfl (decide_eq_false (fun q => hb4 (fun z => q ((nJ_eq (by first | decide | with_reducible assumption | omega) (by first | decide | with_reducible assumption | omega)).mpr z)))) ?_
        refine E_il rfl L5 ?_
        refine E_ci 1 rfl ci1 ?_
        refine E_bin rfl (nJ_add _ _) ?_
        exact E_rti rfl ⟨B.1, fr_trans hf1 (fr_wk rfl B.2.1), _, rfl⟩
    · refine E_icF rfl (decide_eq_false (fun q => hb3 ((nJ_eq (by first | decide | with_reducible assumption | omega) (by first | decide | with_reducible assumption | omega)).mp q))) ?_
      refine E_goto rfl ?_
      refine E_inc rfl L6 (nJ_inc _) (fun lv8 L8_6 kp8 => ?_)
      have L8_0 := kp8 0 _ (nbz rfl) rfl L0
      have L8_2 := kp8 2 _ (nbz rfl) rfl L2
      have L8_4 := kp8 4 _ (nbz rfl) rfl L4
      have L8_5 := kp8 5 _ (nbz rfl) rfl L5
      refine E_goto rfl ?_
      exact ih lv8 (by first | decide | with_reducible assumption | omega) (by first | decide | with_reducible assumption | omega) hp (BF_skip B hb3) L8_0 L8_2 L8_4 L8_5 L8_6
theorem ws_out {h0 gA : pm_H} {d P c : Nat} (hP8 : P ≤ 8) (hc : c < P) (hP : gn gA 84 0 = P) (hf1 : fr_g TM h0 gA) (hgA : HH gA) (hF : ∀ v, 1 ≤ v → v ≤ P → dep (hg gA) 8 v ∧ gn gA 92 v ≤ P) (j : Nat) : ∀ {h : pm_H} {p n M : Nat} (lv : List (Nat × Value)), p + j = P + 1 → BF gA h P p 1 n M → pm_get lv 0 = some (.ref 77) → pm_get lv 2 = some (.int (nJ c)) → pm_get lv 4 = some (.int (nJ n)) → pm_get lv 5 = some (.int (nJ p)) → Ends (pm_at tX9_wish) (pm_Rt pm_P (d + 29)) (48, lv, [], h, 0, 0) (TQ h0) := by
  induction j with
  | zero =>
    intro h p n M lv hj B L0 L2 L4 L5
    have hpe : gn h 84 0 = P := by rw [fr_gn B.2.1 (rg_no rfl _)]; exact hP
    refine E_il rfl L5 ?_
    refine E_al rfl L0 ?_
    refine E_call rfl (sp_places B.1) (chk77 B.1 rfl rfl (by show 1 ≤ 8; decide)) (fun h1 r1 => ?_)
    rintro ⟨e1, f1, c1⟩
    rw [e1, f1]
    show Ends _ _ (54, lv, [.int (nJ (gn h 84 0)), .int (nJ p)], h, 0, 0) _
    refine E_icT rfl (decide_eq_true ((nJ_lt (by first | decide | with_reducible assumption | omega) (by first | decide | with_reducible assumption | omega)).mpr (by first | decide | with_reducible assumption | omega))) ?_
    refine E_c rfl ?_
    exact E_rti rfl ⟨B.1, fr_trans hf1 (fr_wk rfl B.2.1), _, rfl⟩
  | succ j ih =>
    intro h p n M lv hj B L0 L2 L4 L5
    have hpe : gn h 84 0 = P := by rw [fr_gn B.2.1 (rg_no rfl _)]; exact hP
    refine E_il rfl L5 ?_
    refine E_al rfl L0 ?_
    refine E_call rfl (sp_places B.1) (chk77 B.1 rfl rfl (by show 1 ≤ 8; decide)) (fun h1 r1 => ?_)
    rintro ⟨e1, f1, c1⟩
    rw [e1, f1]
    show Ends _ _ (54, lv, [.int (nJ (gn h 84 0)), .int (nJ p)], h, 0, 0) _
    refine E_icF rfl (decide_eq_false (fun q => absurd ((nJ_lt (by first | decide | with_reducible assumption | omega) (by first | decide | with_reducible assumption | omega)).mp q) (by first | decide | with_reducible assumption | omega))) ?_
    refine E_ci 1 rfl ci1 ?_
    refine E_is rfl (fun lv2 L2_6 kp2 => ?_)
    have L2_0 := kp2 0 _ (nbz rfl) rfl L0
    have L2_2 := kp2 2 _ (nbz rfl) rfl L2
    have L2_4 := kp2 4 _ (nbz rfl) rfl L4
    have L2_5 := kp2 5 _ (nbz rfl) rfl L5
    exact ws_in hP8 hc hP hf1 hgA hF (by first | decide | with_reducible assumption | omega) (fun lv' a B' b c e f => ih lv' (by first | decide | with_reducible assumption | omega) B' b c e f) P (k := 1) lv2 (by first | decide | with_reducible assumption | omega) (by first | decide | with_reducible assumption | omega) (BF_lt B (by first | decide | with_reducible assumption | omega) hF) B L2_0 L2_2 L2_4 L2_5 L2_6
theorem tp_wish {h0 : pm_H} {d : Nat} {x y : Int32} (hh0 : HH h0) (hR : RI 0 h0) : Sp (d + 30) 374 h0 [.ref 77, .int x, .int y] (TQ h0) := by
  refine Sp_of aiX9_wish rfl rfl rfl ?_
  have L0 : pm_get (lv_args 0 [.ref 77, .int x, .int y]) 0 = some (.ref 77) := rfl
  have L1 : pm_get (lv_args 0 [.ref 77, .int x, .int y]) 1 = some (.int x) := rfl
  have L2 : pm_get (lv_args 0 [.ref 77, .int x, .int y]) 2 = some (.int y) := rfl
  generalize lv_args 0 [.ref 77, .int x, .int y] = lv at L0 L1 L2 ⊢
  refine E_al rfl L0 ?_
  refine E_ci 0 rfl ci0 ?_
  refine E_pf rfl hh0 rfl ?_
  have hh1 : HH (pt h0 77 0 (nJ 0)) := HH_ptn hh0 rfl (by first | decide | with_reducible assumption | omega) (by first | decide | with_reducible assumption | omega) (by first | decide | with_reducible assumption | omega)
  have fr1 : fr_g TM h0 (pt h0 77 0 (nJ 0)) := fr_ptr (l := 0) (u := 0) rfl (by first | decide | with_reducible assumption | omega) (by first | decide | with_reducible assumption | omega) (fr_rf TM h0)
  refine E_al rfl L0 ?_
  refine E_il rfl L1 ?_
  refine E_il rfl L2 ?_
  refine E_i2l rfl ?_
  refine E_c rfl ?_
  refine E_al rfl L0 ?_
  refine E_call rfl (sp_places hh1) (chk77 hh1 rfl rfl (by show 6 ≤ 8; decide)) (fun h2 r2 => ?_)
  rintro ⟨e2, f2, c2⟩
  rw [e2, f2]
  show Ends _ _ (14, lv, [.int (nJ (gn (pt h0 77 0 (nJ 0)) 84 0)), .long (0), .long (y).toInt64, .int x, .ref 77], (pt h0 77 0 (nJ 0)), 0, 0) _
  refine E_i2l rfl ?_
  refine E_c rfl ?_
  refine E_lbin rfl ?_
  refine E_call rfl (sp_in (a := y.toInt) (b := 0) (c := (((((gn (pt h0 77 0 (nJ 0)) 84 0)) : Nat) : Int) - 1)) (i2l_toInt _) rfl (i2l_sub1 (by first | decide | with_reducible assumption | omega))) (chkS rfl (by show 2 ≤ 8; decide)) (fun h3 r3 => ?_)
  rintro ⟨e3, f3⟩
  rw [e3, f3]
  show Ends _ _ (20, lv, [.int (zb (0 ≤ y.toInt ∧ y.toInt ≤ (((((gn (pt h0 77 0 (nJ 0)) 84 0)) : Nat) : Int) - 1))), .int x, .ref 77], (pt h0 77 0 (nJ 0)), 0, 0) _
  refine E_call rfl (Sp_le (by first | exact Nat.add_le_add_left (Nat.le_of_ble_eq_true rfl) _ | exact Nat.le_of_ble_eq_true rfl | omega) (sp_whyNotCode (d := 0) (p := 0 ≤ y.toInt ∧ y.toInt ≤ (((((gn (pt h0 77 0 (nJ 0)) 84 0)) : Nat) : Int) - 1)) hh1)) (chk77 hh1 rfl rfl (by show 0 ≤ 8; decide)) (fun h4 r4 => ?_)
  rintro ⟨e4, y4, f4, g4⟩
  rw [e4, f4]
  show Ends _ _ (23, lv, [.int y4], (pt h0 77 0 (nJ 0)), 0, 0) _
  refine E_is rfl (fun lv5 L5_3 kp5 => ?_)
  have L5_0 := kp5 0 _ (nbz rfl) rfl L0
  have L5_1 := kp5 1 _ (nbz rfl) rfl L1
  have L5_2 := kp5 2 _ (nbz rfl) rfl L2
  refine E_il rfl L5_3 ?_
  by_cases hb6 : y4 = 0
  · refine E_ifT rfl (decide_eq_true hb6) ?_
    obtain ⟨sl, rfl, hCD, hpp⟩ := g4 hb6
    have hP8 : gn (pt h0 77 0 (nJ 0)) 84 0 ≤ 8 := gn_hi hh1 rfl (by decide)
    obtain ⟨k, hk, rfl⟩ := nJ_of2 (n := gn (pt h0 77 0 (nJ 0)) 84 0 - 1) hpp.1 (by have h9 := hpp.2; have h8 := hpp.1; have h7 := hCD.2.1; omega)
    have hk2 : k < gn (pt h0 77 0 (nJ 0)) 84 0 := by have h7 := hCD.2.1; omega
    refine E_al rfl L5_0 ?_
    refine E_il rfl L5_1 ?_
    refine E_call rfl (Sp_le (by first | exact Nat.add_le_add_left (Nat.le_of_ble_eq_true rfl) _ | exact Nat.le_of_ble_eq_true rfl | omega) (sp_laysSlot (d := 0) hh1 hCD)) (chk77 hh1 rfl rfl (by show 0 ≤ 8; decide)) (fun h7 r7 => ?_)
    rintro ⟨e7, hh7, fq7, dq7⟩
    rw [e7]
    have fr7 : fr_g TM h0 h7 := fr_trans fr1 (fr_wk rfl fq7)
    have pe7 : gn h7 84 0 = gn (pt h0 77 0 (nJ 0)) 84 0 := fr_gn fq7 (rg_no rfl _)
    show Ends _ _ (35, lv5, [], h7, 0, 0) _
    refine E_ci 1 rfl ci1 ?_
    refine E_is rfl (fun lv8 L8_4 kp8 => ?_)
    have L8_0 := kp8 0 _ (nbz rfl) rfl L5_0
    have L8_1 := kp8 1 _ (nbz rfl) rfl L5_1
    have L8_2 := kp8 2 _ (nbz rfl) rfl L5_2
    have L8_3 := kp8 3 _ (nbz rfl) rfl L5_3
    refine E_al rfl L8_0 ?_
    refine E_gr rfl hh7 (q := 93) rfl ?_
    refine E_ci 0 rfl ci0 ?_
    refine E_ci 0 rfl ci0 ?_
    refine E_ias rfl hh7 rfl (by first | decide | with_reducible assumption | omega) (by decide) ?_
    have hh9 : HH (pt h7 93 0 (nJ 0)) := HH_ptn hh7 (bd_u rfl (by first | decide | with_reducible assumption | omega)) (by first | decide | with_reducible assumption | omega) (by first | decide | with_reducible assumption | omega) (by first | decide | with_reducible assumption | omega)
    have fr9 : fr_g TM h0 (pt h7 93 0 (nJ 0)) := fr_ptr (l := 0) (u := 8) rfl (by first | decide | with_reducible assumption | omega) (by first | decide | with_reducible assumption | omega) fr7
    refine E_ci 0 rfl ci0 ?_
    refine E_is rfl (fun lv10 L10_5 kp10 => ?_)
    have L10_0 := kp10 0 _ (nbz rfl) rfl L8_0
    have L10_1 := kp10 1 _ (nbz rfl) rfl L8_1
    have L10_2 := kp10 2 _ (nbz rfl) rfl L8_2
    have L10_3 := kp10 3 _ (nbz rfl) rfl L8_3
    have L10_4 := kp10 4 _ (nbz rfl) rfl L8_4
    exact ws_out (P := gn h7 84 0) (by first | decide | with_reducible assumption | omega) (by first | decide | with_reducible assumption | omega) rfl fr7 hh7 (fun v h1 h2 => by have := dq7 v h1 (by first | decide | with_reducible assumption | omega); exact ⟨this.1, by omega⟩) (gn h7 84 0 + 1) (p := 0) (n := 1) (M := 1) lv10 (by first | decide | with_reducible assumption | omega) (BF_zero (by first | decide | with_reducible assumption | omega) hh7) L10_0 L10_2 L10_4 L10_5
  · refine E_ifF rfl (decide_eq_false hb6) ?_
    refine E_il rfl L5_3 ?_
    exact E_rti rfl ⟨hh1, fr1, _, rfl⟩
theorem nJ_mod {a b : Nat} (hb : 0 < b) (ha : a < 2147483648) (hb2 : b < 2147483648) : nJ a - nJ a / nJ b * nJ b = nJ (a % b) := by
  have h1 : (nJ a / nJ b) = nJ (a / b) := by
    apply Int32.toInt_inj.mp
    have := Nat.div_le_self a b
    rw [Int32.toInt_div, nJ_toInt ha, nJ_toInt hb2, nJ_toInt (by first | decide | with_reducible assumption | omega), ← Int.ofNat_tdiv]
    generalize a / b = q at this ⊢
    rw [Int.bmod_eq_of_le (by first | decide | with_reducible assumption | omega) (by first | decide | with_reducible assumption | omega)]
  have h2 : a / b * b ≤ a := Nat.div_mul_le_self a b
  rw [h1, nJ_mul, nJ_sub h2]
  congr 1
  have := Nat.div_add_mod a b
  rw [Nat.mul_comm] at this
  omega
theorem nJ_div {a b : Nat} (_ : 0 < b) (ha : a < 2147483648) (hb2 : b < 2147483648) : nJ a / nJ b = nJ (a / b) := by
  apply Int32.toInt_inj.mp
  have := Nat.div_le_self a b
  rw [Int32.toInt_div, nJ_toInt ha, nJ_toInt hb2, nJ_toInt (by first | decide | with_reducible assumption | omega), ← Int.ofNat_tdiv]
  generalize a / b = q at this ⊢
  rw [Int.bmod_eq_of_le (by first | decide | with_reducible assumption | omega) (by first | decide | with_reducible assumption | omega)]
theorem E_div {look : Nat → Option pm_I} {call : pm_Call} {Q : pm_H → Option Value → Prop} {pc n : Nat} {lv : List (Nat × Value)} {st : List Value} {w : pm_H × Nat × Nat} {op : Int32 → Int32 → Int32} {x y v : Int32} (h1 : look pc = some (.inl (s_div op n))) (h0 : ¬ y = 0) (e : op x y = v) (k : Ends look call (n, lv, .int v :: st, w) Q) : Ends look call (pc, lv, .int y :: .int x :: st, w) Q := by
  subst e; exact E_st h1 (by simp only [s_div, if_neg h0]) k
theorem tr_in {h0 : pm_H} {d n A x : Nat} {y so : Int32} (hn1 : 1 ≤ n) (hn5 : n ≤ 5) (hA : A ≤ 7776) (hx : x < A) (K : ∀ {h : pm_H} {so : Int32} (lv : List (Nat × Value)), HH h → fr_g TM h0 h → pm_get lv 0 = some (.ref 77) → pm_get lv 1 = some (.int (nJ n)) → pm_get lv 2 = some (.int y) → pm_get lv 3 = some (.int (nJ A)) → pm_get lv 4 = some (.int so) → pm_get lv 5 = some (.int (nJ (x + 1))) → Ends (pm_at tX9_trees) (pm_Rt pm_P (d + 29)) (59, lv, [], h, 0, 0) (TQ h0)) (j : Nat) : ∀ {h : pm_H} {i u : Nat} (lv : List (Nat × Value)), i + j = n - 1 → u < 7776 → HH h → fr_g TM h0 h → (∀ i1, i1 < i → gn h 95 i1 ≤ n) → pm_get lv 0 = some (.ref 77) → pm_get lv 1 = some (.int (nJ n)) → pm_get lv 2 = some (.int y) → pm_get lv 3 = some (.int (nJ A)) → pm_get lv 4 = some (.int so) → pm_get lv 5 = some (.int (nJ x)) → pm_get lv 6 = some (.int (nJ u)) → pm_get lv 7 = some (.int (nJ i)) → Ends (pm_at tX9_trees) (pm_Rt pm_P (d + 29)) (72, lv, [], h, 0, 0) (TQ h0) := by
  induction j with
  | zero =>
    intro h i u lv hj hu hh hfr hc L0 L1 L2 L3 L4 L5 L6 L7
    refine E_il rfl L7 ?_
    refine E_il rfl L1 ?_
    refine E_ci 1 rfl ci1 ?_
    refine E_bin rfl (nJ_sub (by first | decide | with_reducible assumption | omega)) ?_
    refine E_icT rfl (decide_eq_true ((nJ_le (by first | decide | with_reducible assumption | omega) (by first | decide | with_reducible assumption | omega)).mpr (by first | decide | with_reducible assumption | omega))) ?_
    refine E_al rfl L0 ?_
    refine E_il rfl L1 ?_
    refine E_ci 1 rfl ci1 ?_
    refine E_bin rfl (nJ_add _ _) ?_
    refine E_call rfl (Sp_le (by first | exact Nat.add_le_add_left (Nat.le_of_ble_eq_true rfl) _ | exact Nat.le_of_ble_eq_true rfl | omega) (sp_reads0 (d := 0) (N := n + 1) hh (by first | decide | with_reducible assumption | omega) (by first | decide | with_reducible assumption | omega) (fun j hj => by have := hc j (by first | decide | with_reducible assumption | omega); omega))) (chk77 hh rfl rfl (by show 0 ≤ 8; decide)) (fun h1 r1 => ?_)
    rintro ⟨e1, hh1, fq1, dq1⟩
    rw [e1]
    have fr1 : fr_g TM h0 h1 := fr_trans hfr (fr_wk rfl fq1)
    show Ends _ _ (114, lv, [], h1, 0, 0) _
    refine E_il rfl L4 ?_
    refine E_al rfl L0 ?_
    refine E_il rfl L1 ?_
    refine E_call rfl (Sp_le (by first | exact Nat.add_le_add_left (Nat.le_of_ble_eq_true rfl) _ | exact Nat.le_of_ble_eq_true rfl | omega) (sp_turnedIn (d := 0) hh1 (by first | decide | with_reducible assumption | omega) (fun v h1 h2 => (fun v h1 h2 => (dq1 v h1 h2).1) v h1 (by first | decide | with_reducible assumption | omega)))) (chk77 hh1 rfl rfl (by show 1 ≤ 8; decide)) (fun h2 r2 => ?_)
    rintro ⟨e2, x2, f2⟩
    rw [e2, f2]
    show Ends _ _ (121, lv, [.int x2, .int so], h1, 0, 0) _
    refine E_il rfl L2 ?_
    by_cases hb3 : ¬ x2 = y
    · refine E_icT rfl (decide_eq_true hb3) ?_
      refine E_ci 0 rfl ci0 ?_
      refine E_bin rfl rfl ?_
      refine E_is rfl (fun lv4 L4_4 kp4 => ?_)
      have L4_0 := kp4 0 _ (nbz rfl) rfl L0
      have L4_1 := kp4 1 _ (nbz rfl) rfl L1
      have L4_2 := kp4 2 _ (nbz rfl) rfl L2
      have L4_3 := kp4 3 _ (nbz rfl) rfl L3
      have L4_5 := kp4 5 _ (nbz rfl) rfl L5
      have L4_6 := kp4 6 _ (nbz rfl) rfl L6
      have L4_7 := kp4 7 _ (nbz rfl) rfl L7
      refine E_inc rfl L4_5 (nJ_inc _) (fun lv5 L5_5 kp5 => ?_)
      have L5_0 := kp5 0 _ (nbz rfl) rfl L4_0
      have L5_1 := kp5 1 _ (nbz rfl) rfl L4_1
      have L5_2 := kp5 2 _ (nbz rfl) rfl L4_2
      have L5_3 := kp5 3 _ (nbz rfl) rfl L4_3
      have L5_4 := kp5 4 _ (nbz rfl) rfl L4_4
      have L5_6 := kp5 6 _ (nbz rfl) rfl L4_6
      have L5_7 := kp5 7 _ (nbz rfl) rfl L4_7
      refine E_goto rfl ?_
      exact K lv5 hh1 fr1 L5_0 L5_1 L5_2 L5_3 L5_4 L5_5
    · refine E_icF rfl (decide_eq_false hb3) ?_
      refine E_ci 1 rfl ci1 ?_
      refine E_goto rfl ?_
      refine E_bin rfl rfl ?_
      refine E_is rfl (fun lv6 L6_4 kp6 => ?_)
      have L6_0 := kp6 0 _ (nbz rfl) rfl L0
      have L6_1 := kp6 1 _ (nbz rfl) rfl L1
      have L6_2 := kp6 2 _ (nbz rfl) rfl L2
      have L6_3 := kp6 3 _ (nbz rfl) rfl L3
      have L6_5 := kp6 5 _ (nbz rfl) rfl L5
      have L6_6 := kp6 6 _ (nbz rfl) rfl L6
      have L6_7 := kp6 7 _ (nbz rfl) rfl L7
      refine E_inc rfl L6_5 (nJ_inc _) (fun lv7 L7_5 kp7 => ?_)
      have L7_0 := kp7 0 _ (nbz rfl) rfl L6_0
      have L7_1 := kp7 1 _ (nbz rfl) rfl L6_1
      have L7_2 := kp7 2 _ (nbz rfl) rfl L6_2
      have L7_3 := kp7 3 _ (nbz rfl) rfl L6_3
      have L7_4 := kp7 4 _ (nbz rfl) rfl L6_4
      have L7_6 := kp7 6 _ (nbz rfl) rfl L6_6
      have L7_7 := kp7 7 _ (nbz rfl) rfl L6_7
      refine E_goto rfl ?_
      exact K lv7 hh1 fr1 L7_0 L7_1 L7_2 L7_3 L7_4 L7_5
  | succ j ih =>
    intro h i u lv hj hu hh hfr hc L0 L1 L2 L3 L4 L5 L6 L7
    refine E_il rfl L7 ?_
    refine E_il rfl L1 ?_
    refine E_ci 1 rfl ci1 ?_
    refine E_bin rfl (nJ_sub (by first | decide | with_reducible assumption | omega)) ?_
    refine E_icF rfl (decide_eq_false (fun q => absurd ((nJ_le (by first | decide | with_reducible assumption | omega) (by first | decide | with_reducible assumption | omega)).mp q) (by first | decide | with_reducible assumption | omega))) ?_
    refine E_al rfl L0 ?_
    refine E_gr rfl hh (q := 95) rfl ?_
    refine E_il rfl L7 ?_
    refine E_il rfl L6 ?_
    refine E_il rfl L1 ?_
    refine E_ci 1 rfl ci1 ?_
    refine E_bin rfl (nJ_add _ _) ?_
    have hmd := Nat.mod_lt u (show 0 < n + 1 by omega)
    refine E_div rfl (fun q => absurd ((nJ_eq0 (by first | decide | with_reducible assumption | omega)).mp q) (by first | decide | with_reducible assumption | omega)) (nJ_mod (by first | decide | with_reducible assumption | omega) (by first | decide | with_reducible assumption | omega) (by first | decide | with_reducible assumption | omega)) ?_
    refine E_ias rfl hh rfl (by first | decide | with_reducible assumption | omega) (by decide) ?_
    have hh1 : HH (pt h 95 i (nJ ((u % (n + 1))))) := HH_ptn hh (bd_u rfl (by first | decide | with_reducible assumption | omega)) (by first | decide | with_reducible assumption | omega) (by first | decide | with_reducible assumption | omega) (by first | decide | with_reducible assumption | omega)
    have fr1 : fr_g TM h0 (pt h 95 i (nJ ((u % (n + 1))))) := fr_ptr (l := 0) (u := 7) rfl (by first | decide | with_reducible assumption | omega) (by first | decide | with_reducible assumption | omega) hfr
    refine E_il rfl L6 ?_
    refine E_il rfl L1 ?_
    refine E_ci 1 rfl ci1 ?_
    refine E_bin rfl (nJ_add _ _) ?_
    have hdv := Nat.div_le_self u (n + 1)
    refine E_div rfl (fun q => absurd ((nJ_eq0 (by first | decide | with_reducible assumption | omega)).mp q) (by first | decide | with_reducible assumption | omega)) (nJ_div (by first | decide | with_reducible assumption | omega) (by first | decide | with_reducible assumption | omega) (by first | decide | with_reducible assumption | omega)) ?_
    refine E_is rfl (fun lv2 L2_6 kp2 => ?_)
    have L2_0 := kp2 0 _ (nbz rfl) rfl L0
    have L2_1 := kp2 1 _ (nbz rfl) rfl L1
    have L2_2 := kp2 2 _ (nbz rfl) rfl L2
    have L2_3 := kp2 3 _ (nbz rfl) rfl L3
    have L2_4 := kp2 4 _ (nbz rfl) rfl L4
    have L2_5 := kp2 5 _ (nbz rfl) rfl L5
    have L2_7 := kp2 7 _ (nbz rfl) rfl L7
    refine E_inc rfl L2_7 (nJ_inc _) (fun lv3 L3_7 kp3 => ?_)
    have L3_0 := kp3 0 _ (nbz rfl) rfl L2_0
    have L3_1 := kp3 1 _ (nbz rfl) rfl L2_1
    have L3_2 := kp3 2 _ (nbz rfl) rfl L2_2
    have L3_3 := kp3 3 _ (nbz rfl) rfl L2_3
    have L3_4 := kp3 4 _ (nbz rfl) rfl L2_4
    have L3_5 := kp3 5 _ (nbz rfl) rfl L2_5
    have L3_6 := kp3 6 _ (nbz rfl) rfl L2_6
    refine E_goto rfl ?_
    refine ih lv3 (by first | decide | with_reducible assumption | omega) (by first | decide | with_reducible assumption | omega) hh1 fr1 (fun i1 h1 => ?_) L3_0 L3_1 L3_2 L3_3 L3_4 L3_5 L3_6 L3_7
    by_cases e : i1 = i
    · rw [e, gn_ptn hh (bd_u rfl (by first | decide | with_reducible assumption | omega)) (by first | decide | with_reducible assumption | omega) (by first | decide | with_reducible assumption | omega) (by first | decide | with_reducible assumption | omega)]; omega
    · rw [gn_ne (fun _ => e)]; exact hc i1 (by first | decide | with_reducible assumption | omega)
theorem tr_out {h0 : pm_H} {d n A : Nat} {y : Int32} (hn1 : 1 ≤ n) (hn5 : n ≤ 5) (hA : A ≤ 7776) (j : Nat) : ∀ {h : pm_H} {so : Int32} {x : Nat} (lv : List (Nat × Value)), x + j = A → HH h → fr_g TM h0 h → pm_get lv 0 = some (.ref 77) → pm_get lv 1 = some (.int (nJ n)) → pm_get lv 2 = some (.int y) → pm_get lv 3 = some (.int (nJ A)) → pm_get lv 4 = some (.int so) → pm_get lv 5 = some (.int (nJ x)) → Ends (pm_at tX9_trees) (pm_Rt pm_P (d + 29)) (59, lv, [], h, 0, 0) (TQ h0) := by
  induction j with
  | zero =>
    intro h so x lv hj hh hfr L0 L1 L2 L3 L4 L5
    refine E_il rfl L5 ?_
    refine E_il rfl L3 ?_
    refine E_icT rfl (decide_eq_true ((nJ_le (by first | decide | with_reducible assumption | omega) (by first | decide | with_reducible assumption | omega)).mpr (by first | decide | with_reducible assumption | omega))) ?_
    refine E_il rfl L4 ?_
    exact E_rti rfl ⟨hh, hfr, _, rfl⟩
  | succ j ih =>
    intro h so x lv hj hh hfr L0 L1 L2 L3 L4 L5
    refine E_il rfl L5 ?_
    refine E_il rfl L3 ?_
    refine E_icF rfl (decide_eq_false (fun q => absurd ((nJ_le (by first | decide | with_reducible assumption | omega) (by first | decide | with_reducible assumption | omega)).mp q) (by first | decide | with_reducible assumption | omega))) ?_
    refine E_il rfl L5 ?_
    refine E_is rfl (fun lv1 L1_6 kp1 => ?_)
    have L1_0 := kp1 0 _ (nbz rfl) rfl L0
    have L1_1 := kp1 1 _ (nbz rfl) rfl L1
    have L1_2 := kp1 2 _ (nbz rfl) rfl L2
    have L1_3 := kp1 3 _ (nbz rfl) rfl L3
    have L1_4 := kp1 4 _ (nbz rfl) rfl L4
    have L1_5 := kp1 5 _ (nbz rfl) rfl L5
    refine E_ci 0 rfl ci0 ?_
    refine E_is rfl (fun lv2 L2_7 kp2 => ?_)
    have L2_0 := kp2 0 _ (nbz rfl) rfl L1_0
    have L2_1 := kp2 1 _ (nbz rfl) rfl L1_1
    have L2_2 := kp2 2 _ (nbz rfl) rfl L1_2
    have L2_3 := kp2 3 _ (nbz rfl) rfl L1_3
    have L2_4 := kp2 4 _ (nbz rfl) rfl L1_4
    have L2_5 := kp2 5 _ (nbz rfl) rfl L1_5
    have L2_6 := kp2 6 _ (nbz rfl) rfl L1_6
    exact tr_in hn1 hn5 hA (by first | decide | with_reducible assumption | omega) (fun lv' a b c e f g i k => ih lv' (by first | decide | with_reducible assumption | omega) a b c e f g i k) (n - 1) (i := 0) lv2 (by first | decide | with_reducible assumption | omega) (by first | decide | with_reducible assumption | omega) hh hfr (fun i1 h1 => absurd h1 (Nat.not_lt_zero _)) L2_0 L2_1 L2_2 L2_3 L2_4 L2_5 L2_6 L2_7
theorem tr_all {h0 h : pm_H} {d n : Nat} {y : Int32} (hn1 : 1 ≤ n) (hn5 : n ≤ 5) (hh : HH h) (hfr : fr_g TM h0 h) (j : Nat) : ∀ {A i : Nat} (lv : List (Nat × Value)), i + j = n - 1 → A ≤ 6 ^ i → pm_get lv 0 = some (.ref 77) → pm_get lv 1 = some (.int (nJ n)) → pm_get lv 2 = some (.int y) → pm_get lv 3 = some (.int (nJ A)) → pm_get lv 4 = some (.int (nJ i)) → Ends (pm_at tX9_trees) (pm_Rt pm_P (d + 29)) (33, lv, [], h, 0, 0) (TQ h0) := by
  induction j with
  | zero =>
    intro A i lv hj hA L0 L1 L2 L3 L4
    have hA : A ≤ 7776 := Nat.le_trans hA (Nat.pow_le_pow_right (by first | decide | with_reducible assumption | omega) (show i ≤ 5 by omega))
    refine E_il rfl L4 ?_
    refine E_il rfl L1 ?_
    refine E_ci 1 rfl ci1 ?_
    refine E_bin rfl (nJ_sub (by first | decide | with_reducible assumption | omega)) ?_
    refine E_icT rfl (decide_eq_true ((nJ_le (by first | decide | with_reducible assumption | omega) (by first | decide | with_reducible assumption | omega)).mpr (by first | decide | with_reducible assumption | omega))) ?_
    refine E_ci 0 rfl ci0 ?_
    refine E_is rfl (fun lv1 L1_4 kp1 => ?_)
    have L1_0 := kp1 0 _ (nbz rfl) rfl L0
    have L1_1 := kp1 1 _ (nbz rfl) rfl L1
    have L1_2 := kp1 2 _ (nbz rfl) rfl L2
    have L1_3 := kp1 3 _ (nbz rfl) rfl L3
    refine E_ci 0 rfl ci0 ?_
    refine E_is rfl (fun lv2 L2_5 kp2 => ?_)
    have L2_0 := kp2 0 _ (nbz rfl) rfl L1_0
    have L2_1 := kp2 1 _ (nbz rfl) rfl L1_1
    have L2_2 := kp2 2 _ (nbz rfl) rfl L1_2
    have L2_3 := kp2 3 _ (nbz rfl) rfl L1_3
    have L2_4 := kp2 4 _ (nbz rfl) rfl L1_4
    exact tr_out hn1 hn5 (by first | decide | with_reducible assumption | omega) A (x := 0) lv2 (by first | decide | with_reducible assumption | omega) hh hfr L2_0 L2_1 L2_2 L2_3 L2_4 L2_5
  | succ j ih =>
    intro A i lv hj hA L0 L1 L2 L3 L4
    refine E_il rfl L4 ?_
    refine E_il rfl L1 ?_
    refine E_ci 1 rfl ci1 ?_
    refine E_bin rfl (nJ_sub (by first | decide | with_reducible assumption | omega)) ?_
    refine E_icF rfl (decide_eq_false (fun q => absurd ((nJ_le (by first | decide | with_reducible assumption | omega) (by first | decide | with_reducible assumption | omega)).mp q) (by first | decide | with_reducible assumption | omega))) ?_
    have hA2 : A ≤ 7776 := Nat.le_trans hA (Nat.pow_le_pow_right (by first | decide | with_reducible assumption | omega) (show i ≤ 5 by omega))
    have hA3 : A * (n + 1) ≤ 7776 * 6 := Nat.mul_le_mul hA2 (by first | decide | with_reducible assumption | omega)
    refine E_il rfl L3 ?_
    refine E_il rfl L1 ?_
    refine E_ci 1 rfl ci1 ?_
    refine E_bin rfl (nJ_add _ _) ?_
    refine E_bin rfl (nJ_mul _ _) ?_
    refine E_is rfl (fun lv1 L1_3 kp1 => ?_)
    have L1_0 := kp1 0 _ (nbz rfl) rfl L0
    have L1_1 := kp1 1 _ (nbz rfl) rfl L1
    have L1_2 := kp1 2 _ (nbz rfl) rfl L2
    have L1_4 := kp1 4 _ (nbz rfl) rfl L4
    refine E_inc rfl L1_4 (nJ_inc _) (fun lv2 L2_4 kp2 => ?_)
    have L2_0 := kp2 0 _ (nbz rfl) rfl L1_0
    have L2_1 := kp2 1 _ (nbz rfl) rfl L1_1
    have L2_2 := kp2 2 _ (nbz rfl) rfl L1_2
    have L2_3 := kp2 3 _ (nbz rfl) rfl L1_3
    refine E_goto rfl ?_
    refine ih (A := A * (n + 1)) lv2 (by first | decide | with_reducible assumption | omega) ?_ L2_0 L2_1 L2_2 L2_3 L2_4
    have h6 : A * (n + 1) ≤ 6 ^ i * 6 := Nat.mul_le_mul hA (by first | decide | with_reducible assumption | omega)
    rw [Nat.pow_succ]; exact h6
theorem sp_isSmall {h : pm_H} {d : Nat} {x : Int32} (hh : HH h) : Sp (d + 2) 279 h [.ref 77, .int x] (fun h' r => h' = h ∧ r = some (.int (zb (0 < (gi h 83 0).toInt ∧ 1 ≤ x.toInt ∧ x.toInt ≤ 5)))) := by
  refine Sp_of aiX9_isSmall rfl rfl rfl ?_
  refine E_al rfl (show pm_get (lv_args 0 [.ref 77, .int x]) 0 = _ from rfl) ?_
  refine E_call rfl (sp_isStreet hh) (chk77 hh rfl rfl (by show 0 ≤ 8; decide)) (fun h1 r1 => ?_)
  rintro ⟨e1, f1⟩
  rw [e1, f1]
  show Ends _ _ (4, (lv_args 0 [.ref 77, .int x]), [.int (zb (0 < (gi h 83 0).toInt))], h, 0, 0) _
  by_cases hb2 : ¬ (0 < (gi h 83 0).toInt)
  · refine E_ifT rfl (by rw [zb_F hb2]; rfl) ?_
    refine E_ci 0 rfl ci0 ?_
    exact E_rtz rfl (.inl rfl) ⟨rfl, by rw [zb_F (by first | decide | with_reducible assumption | omega)]⟩
  · refine E_ifF rfl (by rw [zb_T (Classical.not_not.mp hb2)]; rfl) ?_
    refine E_il rfl (show pm_get (lv_args 0 [.ref 77, .int x]) 1 = _ from rfl) ?_
    refine E_i2l rfl ?_
    refine E_c rfl ?_
    refine E_c rfl ?_
    refine E_call rfl (sp_in (a := x.toInt) (b := 1) (c := 5) (i2l_toInt _) rfl rfl) (chkS rfl (by show 0 ≤ 8; decide)) (fun h3 r3 => ?_)
    rintro ⟨e3, f3⟩
    rw [e3, f3]
    show Ends _ _ (16, (lv_args 0 [.ref 77, .int x]), [.int (zb (1 ≤ x.toInt ∧ x.toInt ≤ 5))], h, 0, 0) _
    by_cases hb4 : ¬ (1 ≤ x.toInt ∧ x.toInt ≤ 5)
    · refine E_ifT rfl (by rw [zb_F hb4]; rfl) ?_
      refine E_ci 0 rfl ci0 ?_
      exact E_rtz rfl (.inl rfl) ⟨rfl, by rw [zb_F (by first | decide | with_reducible assumption | omega)]⟩
    · refine E_ifF rfl (by rw [zb_T (Classical.not_not.mp hb4)]; rfl) ?_
      refine E_ci 1 rfl ci1 ?_
      refine E_goto rfl ?_
      exact E_rtz rfl (.inr rfl) ⟨rfl, by rw [zb_T (by first | decide | with_reducible assumption | omega)]⟩
theorem tp_trees {h0 : pm_H} {d : Nat} {x y : Int32} (hh0 : HH h0) (hR : RI 0 h0) : Sp (d + 30) 363 h0 [.ref 77, .int x, .int y] (TQ h0) := by
  refine Sp_of aiX9_trees rfl rfl rfl ?_
  have L0 : pm_get (lv_args 0 [.ref 77, .int x, .int y]) 0 = some (.ref 77) := rfl
  have L1 : pm_get (lv_args 0 [.ref 77, .int x, .int y]) 1 = some (.int x) := rfl
  have L2 : pm_get (lv_args 0 [.ref 77, .int x, .int y]) 2 = some (.int y) := rfl
  generalize lv_args 0 [.ref 77, .int x, .int y] = lv at L0 L1 L2 ⊢
  refine E_al rfl L0 ?_
  refine E_ci 0 rfl ci0 ?_
  refine E_pf rfl hh0 rfl ?_
  have hh1 : HH (pt h0 77 0 (nJ 0)) := HH_ptn hh0 rfl (by first | decide | with_reducible assumption | omega) (by first | decide | with_reducible assumption | omega) (by first | decide | with_reducible assumption | omega)
  have fr1 : fr_g TM h0 (pt h0 77 0 (nJ 0)) := fr_ptr (l := 0) (u := 0) rfl (by first | decide | with_reducible assumption | omega) (by first | decide | with_reducible assumption | omega) (fr_rf TM h0)
  refine E_al rfl L0 ?_
  refine E_il rfl L1 ?_
  refine E_call rfl (Sp_le (by first | exact Nat.add_le_add_left (Nat.le_of_ble_eq_true rfl) _ | exact Nat.le_of_ble_eq_true rfl | omega) (sp_isSmall (d := 0) hh1)) (chk77 hh1 rfl rfl (by show 0 ≤ 8; decide)) (fun h2 r2 => ?_)
  rintro ⟨e2, f2⟩
  rw [e2, f2]
  show Ends _ _ (10, lv, [.int (zb (0 < (gi (pt h0 77 0 (nJ 0)) 83 0).toInt ∧ 1 ≤ x.toInt ∧ x.toInt ≤ 5))], (pt h0 77 0 (nJ 0)), 0, 0) _
  by_cases hb3 : ¬ (0 < (gi (pt h0 77 0 (nJ 0)) 83 0).toInt ∧ 1 ≤ x.toInt ∧ x.toInt ≤ 5)
  · refine E_ifT rfl (by rw [zb_F hb3]; rfl) ?_
    refine E_c rfl ?_
    exact E_rti rfl ⟨hh1, fr1, _, rfl⟩
  · refine E_ifF rfl (by rw [zb_T (Classical.not_not.mp hb3)]; rfl) ?_
    have hsm := Classical.not_not.mp hb3
    obtain ⟨n, hn5, rfl⟩ := nJ_of2 (n := 5) (by first | decide | with_reducible assumption | omega) hsm.2.2
    have hn1 : 1 ≤ n := by have h9 := hsm.2.1; rw [nJ_toInt (by first | decide | with_reducible assumption | omega)] at h9; omega
    refine E_il rfl L2 ?_
    refine E_i2l rfl ?_
    refine E_c rfl ?_
    refine E_c rfl ?_
    refine E_call rfl (sp_in (a := y.toInt) (b := 0) (c := 20) (i2l_toInt _) rfl rfl) (chkS rfl (by show 0 ≤ 8; decide)) (fun h4 r4 => ?_)
    rintro ⟨e4, f4⟩
    rw [e4, f4]
    show Ends _ _ (22, lv, [.int (zb (0 ≤ y.toInt ∧ y.toInt ≤ 20))], (pt h0 77 0 (nJ 0)), 0, 0) _
    by_cases hb5 : 0 ≤ y.toInt ∧ y.toInt ≤ 20
    · refine E_ifT rfl (by rw [zb_T hb5]; rfl) ?_
      refine E_ci 1 rfl ci1 ?_
      refine E_is rfl (fun lv6 L6_3 kp6 => ?_)
      have L6_0 := kp6 0 _ (nbz rfl) rfl L0
      have L6_1 := kp6 1 _ (nbz rfl) rfl L1
      have L6_2 := kp6 2 _ (nbz rfl) rfl L2
      refine E_ci 0 rfl ci0 ?_
      refine E_is rfl (fun lv7 L7_4 kp7 => ?_)
      have L7_0 := kp7 0 _ (nbz rfl) rfl L6_0
      have L7_1 := kp7 1 _ (nbz rfl) rfl L6_1
      have L7_2 := kp7 2 _ (nbz rfl) rfl L6_2
      have L7_3 := kp7 3 _ (nbz rfl) rfl L6_3
      exact tr_all hn1 hn5 hh1 fr1 (n - 1) (A := 1) (i := 0) lv7 (by first | decide | with_reducible assumption | omega) (Nat.le_refl _) L7_0 L7_1 L7_2 L7_3 L7_4
    · refine E_ifF rfl (by rw [zb_F hb5]; rfl) ?_
      refine E_c rfl ?_
      exact E_rti rfl ⟨hh1, fr1, _, rfl⟩
end
section
/-! by hand: the code of a tree (written by gen_t12.py) -/
/-- a node that is left and hangs from this one -/
noncomputable def ind (f : Nat → Nat) (g node k : Nat) : Nat := if 1 ≤ k ∧ f k = node ∧ isB g k = false then 1 else 0
theorem ind_T {f : Nat → Nat} {g node k : Nat} (h : 1 ≤ k ∧ f k = node ∧ isB g k = false) : ind f g node k = 1 := if_pos h
theorem ind_F {f : Nat → Nat} {g node k : Nat} (h : ¬ (1 ≤ k ∧ f k = node ∧ isB g k = false)) : ind f g node k = 0 := if_neg h
theorem ind_ne {f : Nat → Nat} {g node k : Nat} (h : ind f g node k ≠ 0) : 1 ≤ k ∧ f k = node ∧ isB g k = false := by
  by_cases q : 1 ≤ k ∧ f k = node ∧ isB g k = false
  · exact q
  · exact absurd (ind_F q) h
noncomputable def upl (f : Nat → Nat) (g node : Nat) : Nat := if node ≠ 0 ∧ isB g (f node) = false then 1 else 0
noncomputable def limb (f : Nat → Nat) (g node P : Nat) : Nat := upl f g node + lc (ind f g node) (P + 1)
theorem lc_le (l : Nat → Nat) : ∀ n, lc l n ≤ n
  | 0 => Nat.le_refl _
  | n + 1 => by
    have := lc_le l n
    unfold lc
    split <;> omega
theorem lc_none {l : Nat → Nat} : ∀ {n : Nat}, (∀ v, v < n → l v = 0) → lc l n = 0
  | 0, _ => rfl
  | n + 1, h => by
    unfold lc
    rw [lc_none (n := n) (fun v hv => h v (by first | decide | with_reducible assumption | omega)), if_pos (h n (by first | decide | with_reducible assumption | omega))]
theorem upl_le (f : Nat → Nat) (g node : Nat) : upl f g node ≤ 1 := by unfold upl; split <;> omega
theorem limb_le (f : Nat → Nat) (g node P : Nat) : limb f g node P ≤ P + 2 := by
  have := lc_le (ind f g node) (P + 1)
  have := upl_le f g node
  unfold limb
  omega
noncomputable def NZ (f : Nat → Nat) : Nat → Nat → Prop
  | 0, k => k ≠ 0
  | n + 1, k => k ≠ 0 ∧ NZ f n (f k)
theorem dep_nz {f : Nat → Nat} : ∀ {n k : Nat}, dep f n k → NZ f n k → False
  | 0, _, h, q => q h
  | _ + 1, _, .inl h, q => q.1 h
  | _ + 1, _, .inr h, q => dep_nz h q.2
/-- what is left hangs together: one node on top -/
noncomputable def CI (f : Nat → Nat) (P g : Nat) : Prop := ∃ t, t ≤ P ∧ isB g t = false ∧ (∀ v, v ≤ P → isB g v = false → v ≠ t → v ≠ 0 ∧ isB g (f v) = false) ∧ (t = 0 ∨ isB g (f t) = true)
theorem un2 {g N t : Nat} (hg : g < 512) (hN : N ≤ 9) (h : pcn g N + 2 ≤ N) (ht : t < N) : ∃ v, v < N ∧ v ≠ t ∧ isB g v = false := by
  by_cases hx : ∃ v, v < N ∧ v ≠ t ∧ isB g v = false
  · exact hx
  · exfalso
    have hall : ∀ v, v < N → v ≠ t → isB g v = true := fun v a b => by
      cases hz : isB g v with
      | true => rfl
      | false => exact absurd ⟨v, a, b, hz⟩ hx
    cases hz : isB g t with
    | true =>
      have : ∀ n, n ≤ N → pcn g n = n := by
        intro n
        induction n with
        | zero => intro _; rfl
        | succ n ih =>
          intro hn
          unfold pcn
          rw [ih (by first | decide | with_reducible assumption | omega), if_pos]
          by_cases e : n = t
          · rw [e]; exact hz
          · exact hall n (by first | decide | with_reducible assumption | omega) e
      have := this N (Nat.le_refl _)
      omega
    | false =>
      have : ∀ n, n ≤ N → pcn (g + 2 ^ t) n = n := by
        intro n
        induction n with
        | zero => intro _; rfl
        | succ n ih =>
          intro hn
          unfold pcn
          rw [ih (by first | decide | with_reducible assumption | omega), if_pos]
          rw [isB_add hg (by first | decide | with_reducible assumption | omega) (by first | decide | with_reducible assumption | omega) hz]
          by_cases e : n = t
          · rw [e, beq_self_eq_true]; rfl
          · rw [hall n (by first | decide | with_reducible assumption | omega) e, Bool.or_true]
      have h1 := this N (Nat.le_refl _)
      rw [pcn_add hg (by first | decide | with_reducible assumption | omega) hz hN, if_pos ht] at h1
      omega
theorem leaf_in {f : Nat → Nat} {P g : Nat} (hP : P ≤ 8) (hg : g < 512) (C : CI f P g) (hD : ∀ v, 1 ≤ v → v ≤ P → dep f 8 v) (h2 : pcn g (P + 1) + 2 ≤ P + 1) : ∃ v, v ≤ P ∧ isB g v = false ∧ limb f g v P = 1 := by
  obtain ⟨t, t1, t2, t3, t4⟩ := C
  by_cases hx : ∃ v, v ≤ P ∧ isB g v = false ∧ limb f g v P = 1
  · exact hx
  · exfalso
    have kid : ∀ v, v ≤ P → isB g v = false → v ≠ t → ∃ k, (k ≤ P ∧ isB g k = false ∧ k ≠ t) ∧ f k = v := by
      intro v v1 v2 v3
      by_cases hy : ∃ k, (k ≤ P ∧ isB g k = false ∧ k ≠ t) ∧ f k = v
      · exact hy
      · exfalso
        refine hx ⟨v, v1, v2, ?_⟩
        have hu := t3 v v1 v2 v3
        unfold limb upl
        rw [if_pos hu, lc_none]
        intro k hk
        refine ind_F (fun ⟨q1, q2, q3⟩ => ?_)
        by_cases e : k = t
        · subst e
          cases t4 with
          | inl q => omega
          | inr q => rw [q2, v2] at q; cases q
        · exact hy ⟨k, ⟨by omega, q3, e⟩, q2⟩
    obtain ⟨v0, a1, a2, a3⟩ := un2 hg (show P + 1 ≤ 9 by omega) h2 (show t < P + 1 by omega)
    have chain : ∀ n, ∃ k, (k ≤ P ∧ isB g k = false ∧ k ≠ t) ∧ NZ f n k := by
      intro n
      induction n with
      | zero => exact ⟨v0, ⟨by omega, a3, a2⟩, (t3 v0 (by first | decide | with_reducible assumption | omega) a3 a2).1⟩
      | succ n ih =>
        obtain ⟨k, ⟨k1, k2, k3⟩, k4⟩ := ih
        obtain ⟨k', ⟨q1, q2, q3⟩, q4⟩ := kid k k1 k2 k3
        exact ⟨k', ⟨q1, q2, q3⟩, (t3 k' q1 q2 q3).1, by rw [q4]; exact k4⟩
    obtain ⟨k, ⟨k1, k2, k3⟩, k4⟩ := chain 8
    have hk0 := (t3 k k1 k2 k3).1
    exact dep_nz (hD k (by first | decide | with_reducible assumption | omega) k1) k4
theorem CI_step {f : Nat → Nat} {P g x : Nat} (hP : P ≤ 8) (hg : g < 512) (hF : ∀ v, 1 ≤ v → v ≤ P → f v ≤ P) (C : CI f P g) (hx : x ≤ P) (hz : isB g x = false) (hl : limb f g x P = 1) : CI f P (g + 2 ^ x) := by
  obtain ⟨t, t1, t2, t3, t4⟩ := C
  have hB : ∀ v, v ≤ P → isB (g + 2 ^ x) v = (v == x || isB g v) := fun v hv => isB_add hg (by first | decide | with_reducible assumption | omega) (by first | decide | with_reducible assumption | omega) hz
  have hB0 : ∀ v, v ≤ P → isB (g + 2 ^ x) v = false → v ≠ x ∧ isB g v = false := fun v hv q => by
    rw [hB v hv, Bool.or_eq_false_iff] at q
    exact ⟨beq_eq_false_iff_ne.mp q.1, q.2⟩
  have hB1 : ∀ v, v ≤ P → v ≠ x → isB g v = false → isB (g + 2 ^ x) v = false := fun v hv q1 q2 => by
    rw [hB v hv, q2, Bool.or_false]; exact beq_eq_false_iff_ne.mpr q1
  unfold limb at hl
  by_cases hxt : x = t
  · subst hxt
    have hu : upl f g x = 0 := by
      refine if_neg (fun ⟨q1, q2⟩ => ?_)
      cases t4 with
      | inl q => exact q1 q
      | inr q => rw [q2] at q; cases q
    rw [hu, Nat.zero_add] at hl
    obtain ⟨u, u1, u2⟩ := lc_pos (l := ind f g x) (n := P + 1) (by first | decide | with_reducible assumption | omega)
    obtain ⟨q1, q2, q3⟩ := ind_ne u2
    have hux : u ≠ x := fun e => by
      subst e
      cases t4 with
      | inl q => omega
      | inr q => rw [q2, q3] at q; cases q
    have honly : ∀ v, v ≤ P → ind f g x v ≠ 0 → v = u := fun v v1 v2 => by
      by_cases e : v = u
      · exact e
      · exfalso
        have s1 := lc_fu0 u2 (n := P + 1) u1
        have s2 := lc_zero (l := fu (ind f g x) u 0) (n := P + 1) (by first | decide | with_reducible assumption | omega) v (by first | decide | with_reducible assumption | omega)
        rw [fu_ne e] at s2
        exact v2 s2
    refine ⟨u, by omega, hB1 u (by first | decide | with_reducible assumption | omega) hux q3, fun v v1 v2 v3 => ?_, .inr ?_⟩
    · obtain ⟨b1, b2⟩ := hB0 v v1 v2
      obtain ⟨c1, c2⟩ := t3 v v1 b2 b1
      refine ⟨c1, hB1 _ (hF v (by first | decide | with_reducible assumption | omega) v1) (fun e => v3 (honly v v1 (by rw [ind_T ⟨by omega, e, b2⟩]; decide))) c2⟩
    · rw [q2, hB x hx, beq_self_eq_true]; rfl
  · have hu := t3 x hx hz hxt
    have hu1 : upl f g x = 1 := if_pos hu
    have hno : ∀ v, v < P + 1 → ind f g x v = 0 := lc_zero (by first | decide | with_reducible assumption | omega)
    refine ⟨t, t1, hB1 t t1 (Ne.symm hxt) t2, fun v v1 v2 v3 => ?_, ?_⟩
    · obtain ⟨b1, b2⟩ := hB0 v v1 v2
      obtain ⟨c1, c2⟩ := t3 v v1 b2 v3
      refine ⟨c1, hB1 _ (hF v (by first | decide | with_reducible assumption | omega) v1) (fun e => ?_) c2⟩
      have := hno v (by first | decide | with_reducible assumption | omega)
      rw [ind_T ⟨by omega, e, b2⟩] at this
      cases this
    · cases t4 with
      | inl q => exact .inl q
      | inr q =>
        by_cases t0 : t = 0
        · exact .inl t0
        · right
          rw [hB _ (hF t (by first | decide | with_reducible assumption | omega) t1), q, Bool.or_true]
theorem lb_loop {h : pm_H} {d node g : Nat} (hh : HH h) (hn : node ≤ 8) (hg : g < 512) (j : Nat) : ∀ {k n : Nat} (lv : List (Nat × Value)), k + j = gn h 84 0 + 1 → 1 ≤ k → n = upl (gn h 92) g node + lc (ind (gn h 92) g node) k → pm_get lv 0 = some (.ref 77) → pm_get lv 1 = some (.int (nJ node)) → pm_get lv 2 = some (.int (nJ g)) → pm_get lv 3 = some (.int (nJ n)) → pm_get lv 4 = some (.int (nJ k)) → Ends (pm_at tX9_limbsOf) (pm_Rt pm_P (d + 1)) (26, lv, [], h, 0, 0) (fun h' r => h' = h ∧ r = some (.int (nJ (limb (gn h 92) g node (gn h 84 0))))) := by
  have hP8 : gn h 84 0 ≤ 8 := gn_hi hh rfl (by decide)
  induction j with
  | zero =>
    intro k n lv hj hk hv L0 L1 L2 L3 L4
    refine E_il rfl L4 ?_
    refine E_al rfl L0 ?_
    refine E_call rfl (sp_places hh) (chk77 hh rfl rfl (by show 1 ≤ 8; decide)) (fun h1 r1 => ?_)
    rintro ⟨e1, f1, c1⟩
    rw [e1, f1]
    show Ends _ _ (32, lv, [.int (nJ (gn h 84 0)), .int (nJ k)], h, 0, 0) _
    refine E_icT rfl (decide_eq_true ((nJ_lt (by first | decide | with_reducible assumption | omega) (by first | decide | with_reducible assumption | omega)).mpr (by first | decide | with_reducible assumption | omega))) ?_
    refine E_il rfl L3 ?_
    exact E_rti rfl ⟨rfl, by rw [hv, show k = gn h 84 0 + 1 by omega]; rfl⟩
  | succ j ih =>
    intro k n lv hj hk hv L0 L1 L2 L3 L4
    refine E_il rfl L4 ?_
    refine E_al rfl L0 ?_
    refine E_call rfl (sp_places hh) (chk77 hh rfl rfl (by show 1 ≤ 8; decide)) (fun h1 r1 => ?_)
    rintro ⟨e1, f1, c1⟩
    rw [e1, f1]
    show Ends _ _ (32, lv, [.int (nJ (gn h 84 0)), .int (nJ k)], h, 0, 0) _
    refine E_icF rfl (decide_eq_false (fun q => absurd ((nJ_lt (by first | decide | with_reducible assumption | omega) (by first | decide | with_reducible assumption | omega)).mp q) (by first | decide | with_reducible assumption | omega))) ?_
    have hnl := lc_le (ind (gn h 92) g node) k
    have hul := upl_le (gn h 92) g node
    refine E_il rfl L3 ?_
    refine E_al rfl L0 ?_
    refine E_gr rfl hh (q := 92) rfl ?_
    refine E_il rfl L4 ?_
    have b2 : gn h 92 k ≤ 8 := gn_hi hh (bd_u rfl (by first | decide | with_reducible assumption | omega)) (by decide)
    refine E_ial rfl hh rfl (by first | decide | with_reducible assumption | omega) (by decide) (gi_gn hh (bd_u rfl (by first | decide | with_reducible assumption | omega)) (by decide)) ?_
    refine E_il rfl L1 ?_
    by_cases hb3 : ¬ (gn h 92 k) = node
    · refine E_icT rfl (decide_eq_true (fun q => hb3 ((nJ_eq (by first | decide | with_reducible assumption | omega) (by first | decide | with_reducible assumption | omega)).mp q))) ?_
      have hZ : ¬ (1 ≤ k ∧ gn h 92 k = node ∧ isB g k = false) := fun q => hb3 q.2.1
      refine E_ci 0 rfl ci0 ?_
      refine E_bin rfl (nJ_add _ _) ?_
      refine E_is rfl (fun lv4 L4_3 kp4 => ?_)
      have L4_0 := kp4 0 _ (nbz rfl) rfl L0
      have L4_1 := kp4 1 _ (nbz rfl) rfl L1
      have L4_2 := kp4 2 _ (nbz rfl) rfl L2
      have L4_4 := kp4 4 _ (nbz rfl) rfl L4
      refine E_inc rfl L4_4 (nJ_inc _) (fun lv5 L5_4 kp5 => ?_)
      have L5_0 := kp5 0 _ (nbz rfl) rfl L4_0
      have L5_1 := kp5 1 _ (nbz rfl) rfl L4_1
      have L5_2 := kp5 2 _ (nbz rfl) rfl L4_2
      have L5_3 := kp5 3 _ (nbz rfl) rfl L4_3
      refine E_goto rfl ?_
      refine ih lv5 (by first | decide | with_reducible assumption | omega) (by first | decide | with_reducible assumption | omega) ?_ L5_0 L5_1 L5_2 L5_3 L5_4
      show n + 0 = _ + (lc _ k + (if ind _ _ _ k = 0 then 0 else 1)); rw [ind_F hZ, if_pos rfl]; omega
    · refine E_icF rfl (decide_eq_false (fun q => hb3 (fun z => q ((nJ_eq (by first | decide | with_reducible assumption | omega) (by first | decide | with_reducible assumption | omega)).mpr z)))) ?_
      have hX : gn h 92 k = node := Classical.not_not.mp hb3
      refine E_il rfl L2 ?_
      refine E_il rfl L4 ?_
      refine E_call rfl (sp_isBit (by first | decide | with_reducible assumption | omega) (by first | decide | with_reducible assumption | omega)) (chkS rfl (by show 1 ≤ 8; decide)) (fun h6 r6 => ?_)
      rintro ⟨e6, f6⟩
      rw [e6, f6]
      show Ends _ _ (53, lv, [.int (nJ (bif isB g k then 1 else 0)), .int (nJ n)], h, 0, 0) _
      by_cases hb7 : isB g k = true
      · refine E_ifT rfl (by rw [hb7]; rfl) ?_
        have hZ : ¬ (1 ≤ k ∧ gn h 92 k = node ∧ isB g k = false) := fun q => by rw [q.2.2] at hb7; cases hb7
        refine E_ci 0 rfl ci0 ?_
        refine E_bin rfl (nJ_add _ _) ?_
        refine E_is rfl (fun lv8 L8_3 kp8 => ?_)
        have L8_0 := kp8 0 _ (nbz rfl) rfl L0
        have L8_1 := kp8 1 _ (nbz rfl) rfl L1
        have L8_2 := kp8 2 _ (nbz rfl) rfl L2
        have L8_4 := kp8 4 _ (nbz rfl) rfl L4
        refine E_inc rfl L8_4 (nJ_inc _) (fun lv9 L9_4 kp9 => ?_)
        have L9_0 := kp9 0 _ (nbz rfl) rfl L8_0
        have L9_1 := kp9 1 _ (nbz rfl) rfl L8_1
        have L9_2 := kp9 2 _ (nbz rfl) rfl L8_2
        have L9_3 := kp9 3 _ (nbz rfl) rfl L8_3
        refine E_goto rfl ?_
        refine ih lv9 (by first | decide | with_reducible assumption | omega) (by first | decide | with_reducible assumption | omega) ?_ L9_0 L9_1 L9_2 L9_3 L9_4
        show n + 0 = _ + (lc _ k + (if ind _ _ _ k = 0 then 0 else 1)); rw [ind_F hZ, if_pos rfl]; omega
      · refine E_ifF rfl (by rw [Bool.not_eq_true] at hb7; rw [hb7]; rfl) ?_
        have hY : isB g k = false := by rw [Bool.not_eq_true] at hb7; exact hb7
        refine E_ci 1 rfl ci1 ?_
        refine E_goto rfl ?_
        refine E_bin rfl (nJ_add _ _) ?_
        refine E_is rfl (fun lv10 L10_3 kp10 => ?_)
        have L10_0 := kp10 0 _ (nbz rfl) rfl L0
        have L10_1 := kp10 1 _ (nbz rfl) rfl L1
        have L10_2 := kp10 2 _ (nbz rfl) rfl L2
        have L10_4 := kp10 4 _ (nbz rfl) rfl L4
        refine E_inc rfl L10_4 (nJ_inc _) (fun lv11 L11_4 kp11 => ?_)
        have L11_0 := kp11 0 _ (nbz rfl) rfl L10_0
        have L11_1 := kp11 1 _ (nbz rfl) rfl L10_1
        have L11_2 := kp11 2 _ (nbz rfl) rfl L10_2
        have L11_3 := kp11 3 _ (nbz rfl) rfl L10_3
        refine E_goto rfl ?_
        refine ih lv11 (by first | decide | with_reducible assumption | omega) (by first | decide | with_reducible assumption | omega) ?_ L11_0 L11_1 L11_2 L11_3 L11_4
        show n + 1 = _ + (lc _ k + (if ind _ _ _ k = 0 then 0 else 1)); rw [ind_T ⟨hk, hX, hY⟩, if_neg (by decide)]; omega
theorem sp_limbsOf {h : pm_H} {d node g : Nat} (hh : HH h) (hn : node ≤ 8) (hg : g < 512) : Sp (d + 2) 303 h [.ref 77, .int (nJ node), .int (nJ g)] (fun h' r => h' = h ∧ r = some (.int (nJ (limb (gn h 92) g node (gn h 84 0))))) := by
  refine Sp_of aiX9_limbsOf rfl rfl rfl ?_
  refine E_il rfl (show pm_get (lv_args 0 [.ref 77, .int (nJ node), .int (nJ g)]) 1 = _ from rfl) ?_
  by_cases hb1 : node = 0
  · refine E_ifT rfl (decide_eq_true ((nJ_eq0 (by first | decide | with_reducible assumption | omega)).mpr hb1)) ?_
    have hZ : ¬ (node ≠ 0 ∧ isB g (gn h 92 node) = false) := fun q => q.1 hb1
    refine E_ci 0 rfl ci0 ?_
    refine E_is rfl (fun lv2 L2_3 kp2 => ?_)
    have L2_0 := kp2 0 _ (nbz rfl) rfl (show pm_get (lv_args 0 [.ref 77, .int (nJ node), .int (nJ g)]) 0 = _ from rfl)
    have L2_1 := kp2 1 _ (nbz rfl) rfl (show pm_get (lv_args 0 [.ref 77, .int (nJ node), .int (nJ g)]) 1 = _ from rfl)
    have L2_2 := kp2 2 _ (nbz rfl) rfl (show pm_get (lv_args 0 [.ref 77, .int (nJ node), .int (nJ g)]) 2 = _ from rfl)
    refine E_ci 1 rfl ci1 ?_
    refine E_is rfl (fun lv3 L3_4 kp3 => ?_)
    have L3_0 := kp3 0 _ (nbz rfl) rfl L2_0
    have L3_1 := kp3 1 _ (nbz rfl) rfl L2_1
    have L3_2 := kp3 2 _ (nbz rfl) rfl L2_2
    have L3_3 := kp3 3 _ (nbz rfl) rfl L2_3
    refine lb_loop hh hn hg (gn h 84 0) (k := 1) (n := 0) lv3 (by first | decide | with_reducible assumption | omega) (by first | decide | with_reducible assumption | omega) ?_ L3_0 L3_1 L3_2 L3_3 L3_4
    have h1 : lc (ind (gn h 92) g node) 1 = 0 := by show 0 + (if ind (gn h 92) g node 0 = 0 then 0 else 1) = 0; rw [ind_F (fun q => by omega), if_pos rfl]
    rw [h1, show upl (gn h 92) g node = 0 from if_neg hZ]
  · refine E_ifF rfl (decide_eq_false (fun q => hb1 ((nJ_eq0 (by first | decide | with_reducible assumption | omega)).mp q))) ?_
    have hX : node ≠ 0 := hb1
    refine E_il rfl (show pm_get (lv_args 0 [.ref 77, .int (nJ node), .int (nJ g)]) 2 = _ from rfl) ?_
    refine E_al rfl (show pm_get (lv_args 0 [.ref 77, .int (nJ node), .int (nJ g)]) 0 = _ from rfl) ?_
    refine E_gr rfl hh (q := 92) rfl ?_
    refine E_il rfl (show pm_get (lv_args 0 [.ref 77, .int (nJ node), .int (nJ g)]) 1 = _ from rfl) ?_
    have b4 : gn h 92 node ≤ 8 := gn_hi hh (bd_u rfl (by first | decide | with_reducible assumption | omega)) (by decide)
    refine E_ial rfl hh rfl (by first | decide | with_reducible assumption | omega) (by decide) (gi_gn hh (bd_u rfl (by first | decide | with_reducible assumption | omega)) (by decide)) ?_
    refine E_call rfl (sp_isBit (by first | decide | with_reducible assumption | omega) (by first | decide | with_reducible assumption | omega)) (chkS rfl (by show 0 ≤ 8; decide)) (fun h5 r5 => ?_)
    rintro ⟨e5, f5⟩
    rw [e5, f5]
    show Ends _ _ (14, (lv_args 0 [.ref 77, .int (nJ node), .int (nJ g)]), [.int (nJ (bif isB g ((gn h 92 node)) then 1 else 0))], h, 0, 0) _
    by_cases hb6 : isB g ((gn h 92 node)) = true
    · refine E_ifT rfl (by rw [hb6]; rfl) ?_
      have hZ : ¬ (node ≠ 0 ∧ isB g (gn h 92 node) = false) := fun q => by rw [q.2] at hb6; cases hb6
      refine E_ci 0 rfl ci0 ?_
      refine E_is rfl (fun lv7 L7_3 kp7 => ?_)
      have L7_0 := kp7 0 _ (nbz rfl) rfl (show pm_get (lv_args 0 [.ref 77, .int (nJ node), .int (nJ g)]) 0 = _ from rfl)
      have L7_1 := kp7 1 _ (nbz rfl) rfl (show pm_get (lv_args 0 [.ref 77, .int (nJ node), .int (nJ g)]) 1 = _ from rfl)
      have L7_2 := kp7 2 _ (nbz rfl) rfl (show pm_get (lv_args 0 [.ref 77, .int (nJ node), .int (nJ g)]) 2 = _ from rfl)
      refine E_ci 1 rfl ci1 ?_
      refine E_is rfl (fun lv8 L8_4 kp8 => ?_)
      have L8_0 := kp8 0 _ (nbz rfl) rfl L7_0
      have L8_1 := kp8 1 _ (nbz rfl) rfl L7_1
      have L8_2 := kp8 2 _ (nbz rfl) rfl L7_2
      have L8_3 := kp8 3 _ (nbz rfl) rfl L7_3
      refine lb_loop hh hn hg (gn h 84 0) (k := 1) (n := 0) lv8 (by first | decide | with_reducible assumption | omega) (by first | decide | with_reducible assumption | omega) ?_ L8_0 L8_1 L8_2 L8_3 L8_4
      have h1 : lc (ind (gn h 92) g node) 1 = 0 := by show 0 + (if ind (gn h 92) g node 0 = 0 then 0 else 1) = 0; rw [ind_F (fun q => by omega), if_pos rfl]
      rw [h1, show upl (gn h 92) g node = 0 from if_neg hZ]
    · refine E_ifF rfl (by rw [Bool.not_eq_true] at hb6; rw [hb6]; rfl) ?_
      have hY : isB g (gn h 92 node) = false := by rw [Bool.not_eq_true] at hb6; exact hb6
      refine E_ci 1 rfl ci1 ?_
      refine E_goto rfl ?_
      refine E_is rfl (fun lv9 L9_3 kp9 => ?_)
      have L9_0 := kp9 0 _ (nbz rfl) rfl (show pm_get (lv_args 0 [.ref 77, .int (nJ node), .int (nJ g)]) 0 = _ from rfl)
      have L9_1 := kp9 1 _ (nbz rfl) rfl (show pm_get (lv_args 0 [.ref 77, .int (nJ node), .int (nJ g)]) 1 = _ from rfl)
      have L9_2 := kp9 2 _ (nbz rfl) rfl (show pm_get (lv_args 0 [.ref 77, .int (nJ node), .int (nJ g)]) 2 = _ from rfl)
      refine E_ci 1 rfl ci1 ?_
      refine E_is rfl (fun lv10 L10_4 kp10 => ?_)
      have L10_0 := kp10 0 _ (nbz rfl) rfl L9_0
      have L10_1 := kp10 1 _ (nbz rfl) rfl L9_1
      have L10_2 := kp10 2 _ (nbz rfl) rfl L9_2
      have L10_3 := kp10 3 _ (nbz rfl) rfl L9_3
      refine lb_loop hh hn hg (gn h 84 0) (k := 1) (n := 1) lv10 (by first | decide | with_reducible assumption | omega) (by first | decide | with_reducible assumption | omega) ?_ L10_0 L10_1 L10_2 L10_3 L10_4
      have h1 : lc (ind (gn h 92) g node) 1 = 0 := by show 0 + (if ind (gn h 92) g node 0 = 0 then 0 else 1) = 0; rw [ind_F (fun q => by omega), if_pos rfl]
      rw [h1, show upl (gn h 92) g node = 1 from if_pos ⟨hX, hY⟩]
theorem oe_loop {h : pm_H} {d node g : Nat} (hh : HH h) (hn : node ≤ 8) (hg : g < 512) (hu : upl (gn h 92) g node = 0) (j : Nat) : ∀ {k : Nat} (lv : List (Nat × Value)), k + j = gn h 84 0 + 1 → 1 ≤ k → (∀ k1, k1 < k → ind (gn h 92) g node k1 = 0) → pm_get lv 0 = some (.ref 77) → pm_get lv 1 = some (.int (nJ node)) → pm_get lv 2 = some (.int (nJ g)) → pm_get lv 3 = some (.int (nJ k)) → Ends (pm_at tX9_otherEnd) (pm_Rt pm_P (d + 1)) (26, lv, [], h, 0, 0) (fun h' r => h' = h ∧ ∃ x : Int32, r = some (.int x) ∧ (limb (gn h 92) g node (gn h 84 0) ≠ 0 → ∃ v, v ≤ 8 ∧ x = nJ v)) := by
  have hP8 : gn h 84 0 ≤ 8 := gn_hi hh rfl (by decide)
  induction j with
  | zero =>
    intro k lv hj hk hz L0 L1 L2 L3
    refine E_il rfl L3 ?_
    refine E_al rfl L0 ?_
    refine E_call rfl (sp_places hh) (chk77 hh rfl rfl (by show 1 ≤ 8; decide)) (fun h1 r1 => ?_)
    rintro ⟨e1, f1, c1⟩
    rw [e1, f1]
    show Ends _ _ (31, lv, [.int (nJ (gn h 84 0)), .int (nJ k)], h, 0, 0) _
    refine E_icT rfl (decide_eq_true ((nJ_lt (by first | decide | with_reducible assumption | omega) (by first | decide | with_reducible assumption | omega)).mpr (by first | decide | with_reducible assumption | omega))) ?_
    refine E_c rfl ?_
    exact E_rti rfl ⟨rfl, _, rfl, fun q => absurd (show limb (gn h 92) g node (gn h 84 0) = 0 by unfold limb; rw [hu, lc_none (fun v hv => hz v (by first | decide | with_reducible assumption | omega))]) q⟩
  | succ j ih =>
    intro k lv hj hk hz L0 L1 L2 L3
    refine E_il rfl L3 ?_
    refine E_al rfl L0 ?_
    refine E_call rfl (sp_places hh) (chk77 hh rfl rfl (by show 1 ≤ 8; decide)) (fun h1 r1 => ?_)
    rintro ⟨e1, f1, c1⟩
    rw [e1, f1]
    show Ends _ _ (31, lv, [.int (nJ (gn h 84 0)), .int (nJ k)], h, 0, 0) _
    refine E_icF rfl (decide_eq_false (fun q => absurd ((nJ_lt (by first | decide | with_reducible assumption | omega) (by first | decide | with_reducible assumption | omega)).mp q) (by first | decide | with_reducible assumption | omega))) ?_
    refine E_al rfl L0 ?_
    refine E_gr rfl hh (q := 92) rfl ?_
    refine E_il rfl L3 ?_
    have b2 : gn h 92 k ≤ 8 := gn_hi hh (bd_u rfl (by first | decide | with_reducible assumption | omega)) (by decide)
    refine E_ial rfl hh rfl (by first | decide | with_reducible assumption | omega) (by decide) (gi_gn hh (bd_u rfl (by first | decide | with_reducible assumption | omega)) (by decide)) ?_
    refine E_il rfl L1 ?_
    by_cases hb3 : ¬ (gn h 92 k) = node
    · refine E_icT rfl (decide_eq_true (fun q => hb3 ((nJ_eq (by first | decide | with_reducible assumption | omega) (by first | decide | with_reducible assumption | omega)).mp q))) ?_
      have hZ : ¬ (1 ≤ k ∧ gn h 92 k = node ∧ isB g k = false) := fun q => hb3 q.2.1
      refine E_inc rfl L3 (nJ_inc _) (fun lv4 L4_3 kp4 => ?_)
      have L4_0 := kp4 0 _ (nbz rfl) rfl L0
      have L4_1 := kp4 1 _ (nbz rfl) rfl L1
      have L4_2 := kp4 2 _ (nbz rfl) rfl L2
      refine E_goto rfl ?_
      refine ih lv4 (by first | decide | with_reducible assumption | omega) (by first | decide | with_reducible assumption | omega) (fun k1 h1 => ?_) L4_0 L4_1 L4_2 L4_3
      by_cases e : k1 = k
      · rw [e]; exact ind_F hZ
      · exact hz k1 (by first | decide | with_reducible assumption | omega)
    · refine E_icF rfl (decide_eq_false (fun q => hb3 (fun z => q ((nJ_eq (by first | decide | with_reducible assumption | omega) (by first | decide | with_reducible assumption | omega)).mpr z)))) ?_
      refine E_il rfl L2 ?_
      refine E_il rfl L3 ?_
      refine E_call rfl (sp_isBit (by first | decide | with_reducible assumption | omega) (by first | decide | with_reducible assumption | omega)) (chkS rfl (by show 0 ≤ 8; decide)) (fun h5 r5 => ?_)
      rintro ⟨e5, f5⟩
      rw [e5, f5]
      show Ends _ _ (49, lv, [.int (nJ (bif isB g k then 1 else 0))], h, 0, 0) _
      by_cases hb6 : isB g k = true
      · refine E_ifT rfl (by rw [hb6]; rfl) ?_
        have hZ : ¬ (1 ≤ k ∧ gn h 92 k = node ∧ isB g k = false) := fun q => by rw [q.2.2] at hb6; cases hb6
        refine E_inc rfl L3 (nJ_inc _) (fun lv7 L7_3 kp7 => ?_)
        have L7_0 := kp7 0 _ (nbz rfl) rfl L0
        have L7_1 := kp7 1 _ (nbz rfl) rfl L1
        have L7_2 := kp7 2 _ (nbz rfl) rfl L2
        refine E_goto rfl ?_
        refine ih lv7 (by first | decide | with_reducible assumption | omega) (by first | decide | with_reducible assumption | omega) (fun k1 h1 => ?_) L7_0 L7_1 L7_2 L7_3
        by_cases e : k1 = k
        · rw [e]; exact ind_F hZ
        · exact hz k1 (by first | decide | with_reducible assumption | omega)
      · refine E_ifF rfl (by rw [Bool.not_eq_true] at hb6; rw [hb6]; rfl) ?_
        refine E_il rfl L3 ?_
        exact E_rti rfl ⟨rfl, _, rfl, fun _ => ⟨_, by omega, rfl⟩⟩
theorem sp_otherEnd {h : pm_H} {d node g : Nat} (hh : HH h) (hn : node ≤ 8) (hg : g < 512) : Sp (d + 2) 318 h [.ref 77, .int (nJ node), .int (nJ g)] (fun h' r => h' = h ∧ ∃ x : Int32, r = some (.int x) ∧ (limb (gn h 92) g node (gn h 84 0) ≠ 0 → ∃ v, v ≤ 8 ∧ x = nJ v)) := by
  refine Sp_of aiX9_otherEnd rfl rfl rfl ?_
  refine E_il rfl (show pm_get (lv_args 0 [.ref 77, .int (nJ node), .int (nJ g)]) 1 = _ from rfl) ?_
  by_cases hb1 : node = 0
  · refine E_ifT rfl (decide_eq_true ((nJ_eq0 (by first | decide | with_reducible assumption | omega)).mpr hb1)) ?_
    have hZ : ¬ (node ≠ 0 ∧ isB g (gn h 92 node) = false) := fun q => q.1 hb1
    refine E_ci 1 rfl ci1 ?_
    refine E_is rfl (fun lv2 L2_3 kp2 => ?_)
    have L2_0 := kp2 0 _ (nbz rfl) rfl (show pm_get (lv_args 0 [.ref 77, .int (nJ node), .int (nJ g)]) 0 = _ from rfl)
    have L2_1 := kp2 1 _ (nbz rfl) rfl (show pm_get (lv_args 0 [.ref 77, .int (nJ node), .int (nJ g)]) 1 = _ from rfl)
    have L2_2 := kp2 2 _ (nbz rfl) rfl (show pm_get (lv_args 0 [.ref 77, .int (nJ node), .int (nJ g)]) 2 = _ from rfl)
    exact oe_loop hh hn hg (if_neg hZ) (gn h 84 0) (k := 1) lv2 (by first | decide | with_reducible assumption | omega) (by first | decide | with_reducible assumption | omega) (fun k1 h1 => ind_F (fun q => by omega)) L2_0 L2_1 L2_2 L2_3
  · refine E_ifF rfl (decide_eq_false (fun q => hb1 ((nJ_eq0 (by first | decide | with_reducible assumption | omega)).mp q))) ?_
    have hX : node ≠ 0 := hb1
    refine E_il rfl (show pm_get (lv_args 0 [.ref 77, .int (nJ node), .int (nJ g)]) 2 = _ from rfl) ?_
    refine E_al rfl (show pm_get (lv_args 0 [.ref 77, .int (nJ node), .int (nJ g)]) 0 = _ from rfl) ?_
    refine E_gr rfl hh (q := 92) rfl ?_
    refine E_il rfl (show pm_get (lv_args 0 [.ref 77, .int (nJ node), .int (nJ g)]) 1 = _ from rfl) ?_
    have b3 : gn h 92 node ≤ 8 := gn_hi hh (bd_u rfl (by first | decide | with_reducible assumption | omega)) (by decide)
    refine E_ial rfl hh rfl (by first | decide | with_reducible assumption | omega) (by decide) (gi_gn hh (bd_u rfl (by first | decide | with_reducible assumption | omega)) (by decide)) ?_
    refine E_call rfl (sp_isBit (by first | decide | with_reducible assumption | omega) (by first | decide | with_reducible assumption | omega)) (chkS rfl (by show 0 ≤ 8; decide)) (fun h4 r4 => ?_)
    rintro ⟨e4, f4⟩
    rw [e4, f4]
    show Ends _ _ (14, (lv_args 0 [.ref 77, .int (nJ node), .int (nJ g)]), [.int (nJ (bif isB g ((gn h 92 node)) then 1 else 0))], h, 0, 0) _
    by_cases hb5 : isB g ((gn h 92 node)) = true
    · refine E_ifT rfl (by rw [hb5]; rfl) ?_
      have hZ : ¬ (node ≠ 0 ∧ isB g (gn h 92 node) = false) := fun q => by rw [q.2] at hb5; cases hb5
      refine E_ci 1 rfl ci1 ?_
      refine E_is rfl (fun lv6 L6_3 kp6 => ?_)
      have L6_0 := kp6 0 _ (nbz rfl) rfl (show pm_get (lv_args 0 [.ref 77, .int (nJ node), .int (nJ g)]) 0 = _ from rfl)
      have L6_1 := kp6 1 _ (nbz rfl) rfl (show pm_get (lv_args 0 [.ref 77, .int (nJ node), .int (nJ g)]) 1 = _ from rfl)
      have L6_2 := kp6 2 _ (nbz rfl) rfl (show pm_get (lv_args 0 [.ref 77, .int (nJ node), .int (nJ g)]) 2 = _ from rfl)
      exact oe_loop hh hn hg (if_neg hZ) (gn h 84 0) (k := 1) lv6 (by first | decide | with_reducible assumption | omega) (by first | decide | with_reducible assumption | omega) (fun k1 h1 => ind_F (fun q => by omega)) L6_0 L6_1 L6_2 L6_3
    · refine E_ifF rfl (by rw [Bool.not_eq_true] at hb5; rw [hb5]; rfl) ?_
      refine E_al rfl (show pm_get (lv_args 0 [.ref 77, .int (nJ node), .int (nJ g)]) 0 = _ from rfl) ?_
      refine E_gr rfl hh (q := 92) rfl ?_
      refine E_il rfl (show pm_get (lv_args 0 [.ref 77, .int (nJ node), .int (nJ g)]) 1 = _ from rfl) ?_
      have b7 : gn h 92 node ≤ 8 := gn_hi hh (bd_u rfl (by first | decide | with_reducible assumption | omega)) (by decide)
      refine E_ial rfl hh rfl (by first | decide | with_reducible assumption | omega) (by decide) (gi_gn hh (bd_u rfl (by first | decide | with_reducible assumption | omega)) (by decide)) ?_
      exact E_rti rfl ⟨rfl, _, rfl, fun _ => ⟨_, by omega, rfl⟩⟩
noncomputable def NM : List Rng := [(95, 0, 7)]
noncomputable def LC (h0 h : pm_H) (P i g : Nat) : Prop := HH h ∧ fr_g NM h0 h ∧ g < 512 ∧ pcn g (P + 1) = i ∧ CI (gn h0 92) P g
theorem pI_lt {a P : Nat} (ha : a < 2147483648) (hP : P < 2147483648) : nJ a < pI P ↔ a + 1 < P := by
  cases P with
  | zero =>
    refine ⟨fun q => ?_, fun q => by omega⟩
    have h1 := Int32.lt_iff_toInt_lt.mp q
    rw [nJ_toInt ha] at h1
    have h2 : (pI 0).toInt = -1 := rfl
    omega
  | succ k =>
    show nJ a < nJ k ↔ _
    rw [nJ_lt ha (by first | decide | with_reducible assumption | omega)]
    omega
theorem lc_in {h0 : pm_H} {d P : Nat} (hh0 : HH h0) (hP : gn h0 84 0 = P) (hP8 : P ≤ 8) (hP1 : 1 ≤ P) (hD : ∀ v, 1 ≤ v → v ≤ P → dep (hg h0) 8 v ∧ gn h0 92 v ≤ P) {h : pm_H} {i g : Nat} (hh : HH h) (hg : g < 512) (hfe : gn h 92 = gn h0 92) (hpe : gn h 84 0 = P) (hle : ∃ v, v ≤ P ∧ isB g v = false ∧ limb (gn h0 92) g v P = 1) (K : ∀ {x : Nat} (lv : List (Nat × Value)), x ≤ P → isB g x = false → limb (gn h0 92) g x P = 1 → pm_get lv 0 = some (.ref 77) → pm_get lv 1 = some (.int (nJ (P + 1))) → pm_get lv 2 = some (.int (nJ g)) → pm_get lv 3 = some (.int (nJ i)) → pm_get lv 4 = some (.int (nJ x)) → Ends (pm_at tX9_laysCode) (pm_Rt pm_P (d + 3)) (61, lv, [], h, 0, 0) (fun h' r => r = none ∧ HH h' ∧ fr_g NM h0 h')) (j : Nat) : ∀ {l : Int32} (lv : List (Nat × Value)), j ≤ P + 1 → ((l = -1 ∧ ∀ v, j ≤ v → v ≤ P → ¬ (isB g v = false ∧ limb (gn h0 92) g v P = 1)) ∨ ∃ x, l = nJ x ∧ x ≤ P ∧ isB g x = false ∧ limb (gn h0 92) g x P = 1) → pm_get lv 0 = some (.ref 77) → pm_get lv 1 = some (.int (nJ (P + 1))) → pm_get lv 2 = some (.int (nJ g)) → pm_get lv 3 = some (.int (nJ i)) → pm_get lv 4 = some (.int l) → pm_get lv 5 = some (.int (pI j)) → Ends (pm_at tX9_laysCode) (pm_Rt pm_P (d + 3)) (26, lv, [], h, 0, 0) (fun h' r => r = none ∧ HH h' ∧ fr_g NM h0 h') := by
  induction j with
  | zero =>
    intro l lv hj hl L0 L1 L2 L3 L4 L5
    refine E_il rfl L5 ?_
    refine E_ifT rfl (by decide) ?_
    rcases hl with ⟨q1, q2⟩ | ⟨x, x1, x2, x3, x4⟩
    · obtain ⟨v, v1, v2, v3⟩ := hle; exact absurd ⟨v2, v3⟩ (q2 v (Nat.zero_le _) v1)
    · subst x1; exact K lv x2 x3 x4 L0 L1 L2 L3 L4
  | succ k ih =>
    intro l lv hj hl L0 L1 L2 L3 L4 L5
    have L5 : pm_get lv 5 = some (.int (nJ k)) := L5
    refine E_il rfl L5 ?_
    refine E_ifF rfl (decide_eq_false (nJ_lt0 (by first | decide | with_reducible assumption | omega))) ?_
    refine E_il rfl L2 ?_
    refine E_il rfl L5 ?_
    refine E_call rfl (sp_isBit (by first | decide | with_reducible assumption | omega) (by first | decide | with_reducible assumption | omega)) (chkS rfl (by show 0 ≤ 8; decide)) (fun h1 r1 => ?_)
    rintro ⟨e1, f1⟩
    rw [e1, f1]
    show Ends _ _ (37, lv, [.int (nJ (bif isB g k then 1 else 0))], h, 0, 0) _
    by_cases hb2 : isB g k = true
    · refine E_ifT rfl (by rw [hb2]; rfl) ?_
      have hZ : ¬ (isB g k = false ∧ limb (gn h0 92) g k P = 1) := fun q => by rw [q.1] at hb2; cases hb2
      refine E_inc rfl L5 (pI_dec _) (fun lv3 L3_5 kp3 => ?_)
      have L3_0 := kp3 0 _ (nbz rfl) rfl L0
      have L3_1 := kp3 1 _ (nbz rfl) rfl L1
      have L3_2 := kp3 2 _ (nbz rfl) rfl L2
      have L3_3 := kp3 3 _ (nbz rfl) rfl L3
      have L3_4 := kp3 4 _ (nbz rfl) rfl L4
      refine E_goto rfl ?_
      refine ih lv3 (by first | decide | with_reducible assumption | omega) ?_ L3_0 L3_1 L3_2 L3_3 L3_4 L3_5
      rcases hl with ⟨q1, q2⟩ | q
      · refine .inl ⟨q1, fun v v1 v2 => ?_⟩
        by_cases e : v = k
        · rw [e]; exact hZ
        · exact q2 v (by first | decide | with_reducible assumption | omega) v2
      · exact .inr q
    · refine E_ifF rfl (by rw [Bool.not_eq_true] at hb2; rw [hb2]; rfl) ?_
      have hX : isB g k = false := by rw [Bool.not_eq_true] at hb2; exact hb2
      refine E_al rfl L0 ?_
      refine E_il rfl L5 ?_
      refine E_il rfl L2 ?_
      refine E_call rfl (Sp_le (by first | exact Nat.add_le_add_left (Nat.le_of_ble_eq_true rfl) _ | exact Nat.le_of_ble_eq_true rfl | omega) (sp_limbsOf (d := 0) hh (by first | decide | with_reducible assumption | omega) (by first | decide | with_reducible assumption | omega))) (chk77 hh rfl rfl (by show 0 ≤ 8; decide)) (fun h4 r4 => ?_)
      rintro ⟨e4, f4⟩
      rw [e4, f4, hfe, hpe]
      have hl9 := limb_le (gn h0 92) g k P
      show Ends _ _ (47, lv, [.int (nJ (limb (gn h0 92) g k P))], h, 0, 0) _
      refine E_ci 1 rfl ci1 ?_
      by_cases hb5 : ¬ (limb (gn h0 92) g k P) = 1
      · refine E_icT rfl (decide_eq_true (fun q => hb5 ((nJ_eq (by first | decide | with_reducible assumption | omega) (by first | decide | with_reducible assumption | omega)).mp q))) ?_
        have hZ : ¬ (isB g k = false ∧ limb (gn h0 92) g k P = 1) := fun q => hb5 q.2
        refine E_inc rfl L5 (pI_dec _) (fun lv6 L6_5 kp6 => ?_)
        have L6_0 := kp6 0 _ (nbz rfl) rfl L0
        have L6_1 := kp6 1 _ (nbz rfl) rfl L1
        have L6_2 := kp6 2 _ (nbz rfl) rfl L2
        have L6_3 := kp6 3 _ (nbz rfl) rfl L3
        have L6_4 := kp6 4 _ (nbz rfl) rfl L4
        refine E_goto rfl ?_
        refine ih lv6 (by first | decide | with_reducible assumption | omega) ?_ L6_0 L6_1 L6_2 L6_3 L6_4 L6_5
        rcases hl with ⟨q1, q2⟩ | q
        · refine .inl ⟨q1, fun v v1 v2 => ?_⟩
          by_cases e : v = k
          · rw [e]; exact hZ
          · exact q2 v (by first | decide | with_reducible assumption | omega) v2
        · exact .inr q
      · refine E_icF rfl (decide_eq_false (fun q => hb5 (fun z => q ((nJ_eq (by first | decide | with_reducible assumption | omega) (by first | decide | with_reducible assumption | omega)).mpr z)))) ?_
        have hY : limb (gn h0 92) g k P = 1 := Classical.not_not.mp hb5
        refine E_il rfl L5 ?_
        refine E_is rfl (fun lv7 L7_4 kp7 => ?_)
        have L7_0 := kp7 0 _ (nbz rfl) rfl L0
        have L7_1 := kp7 1 _ (nbz rfl) rfl L1
        have L7_2 := kp7 2 _ (nbz rfl) rfl L2
        have L7_3 := kp7 3 _ (nbz rfl) rfl L3
        have L7_5 := kp7 5 _ (nbz rfl) rfl L5
        refine E_inc rfl L7_5 (pI_dec _) (fun lv8 L8_5 kp8 => ?_)
        have L8_0 := kp8 0 _ (nbz rfl) rfl L7_0
        have L8_1 := kp8 1 _ (nbz rfl) rfl L7_1
        have L8_2 := kp8 2 _ (nbz rfl) rfl L7_2
        have L8_3 := kp8 3 _ (nbz rfl) rfl L7_3
        have L8_4 := kp8 4 _ (nbz rfl) rfl L7_4
        refine E_goto rfl ?_
        exact ih lv8 (by first | decide | with_reducible assumption | omega) (.inr ⟨k, rfl, by omega, hX, hY⟩) L8_0 L8_1 L8_2 L8_3 L8_4 L8_5
theorem lc_out {h0 : pm_H} {d P : Nat} (hh0 : HH h0) (hP : gn h0 84 0 = P) (hP8 : P ≤ 8) (hP1 : 1 ≤ P) (hD : ∀ v, 1 ≤ v → v ≤ P → dep (hg h0) 8 v ∧ gn h0 92 v ≤ P) (j : Nat) : ∀ {h : pm_H} {i g : Nat} (lv : List (Nat × Value)), i + j = P - 1 → LC h0 h P i g → pm_get lv 0 = some (.ref 77) → pm_get lv 1 = some (.int (nJ (P + 1))) → pm_get lv 2 = some (.int (nJ g)) → pm_get lv 3 = some (.int (nJ i)) → Ends (pm_at tX9_laysCode) (pm_Rt pm_P (d + 3)) (11, lv, [], h, 0, 0) (fun h' r => r = none ∧ HH h' ∧ fr_g NM h0 h') := by
  induction j with
  | zero =>
    intro h i g lv hj hL L0 L1 L2 L3
    refine E_il rfl L3 ?_
    refine E_il rfl L1 ?_
    refine E_ci 2 rfl ci2 ?_
    refine E_bin rfl (nJ_sub (by first | decide | with_reducible assumption | omega)) ?_
    refine E_icT rfl (decide_eq_true ((nJ_le (by first | decide | with_reducible assumption | omega) (by first | decide | with_reducible assumption | omega)).mpr (by first | decide | with_reducible assumption | omega))) ?_
    exact E_ret rfl ⟨rfl, hL.1, hL.2.1⟩
  | succ j ih =>
    intro h i g lv hj hL L0 L1 L2 L3
    have hgl := hL.2.2.1
    have hpe : gn h 84 0 = P := by rw [fr_gn hL.2.1 (rg_no rfl _)]; exact hP
    refine E_il rfl L3 ?_
    refine E_il rfl L1 ?_
    refine E_ci 2 rfl ci2 ?_
    refine E_bin rfl (nJ_sub (by first | decide | with_reducible assumption | omega)) ?_
    refine E_icF rfl (decide_eq_false (fun q => absurd ((nJ_le (by first | decide | with_reducible assumption | omega) (by first | decide | with_reducible assumption | omega)).mp q) (by first | decide | with_reducible assumption | omega))) ?_
    refine E_c rfl ?_
    refine E_is rfl (fun lv1 L1_4 kp1 => ?_)
    have L1_0 := kp1 0 _ (nbz rfl) rfl L0
    have L1_1 := kp1 1 _ (nbz rfl) rfl L1
    have L1_2 := kp1 2 _ (nbz rfl) rfl L2
    have L1_3 := kp1 3 _ (nbz rfl) rfl L3
    refine E_il rfl L1_1 ?_
    refine E_ci 1 rfl ci1 ?_
    refine E_bin rfl (pI_of _) ?_
    refine E_is rfl (fun lv2 L2_5 kp2 => ?_)
    have L2_0 := kp2 0 _ (nbz rfl) rfl L1_0
    have L2_1 := kp2 1 _ (nbz rfl) rfl L1_1
    have L2_2 := kp2 2 _ (nbz rfl) rfl L1_2
    have L2_3 := kp2 3 _ (nbz rfl) rfl L1_3
    have L2_4 := kp2 4 _ (nbz rfl) rfl L1_4
    have hfe : gn h 92 = gn h0 92 := funext (fun v => fr_gn hL.2.1 (rg_no rfl _))
    have hle := leaf_in hP8 hL.2.2.1 hL.2.2.2.2 (fun v a b => by have := (hD v a b).1; rw [hg_gn] at this; exact this) (by rw [hL.2.2.2.1]; omega)
    refine lc_in hh0 hP hP8 hP1 hD hL.1 hL.2.2.1 hfe hpe hle (fun {x} lv1 x2 x3 x4 K0 K1 K2 K3 K4 => ?_) (P + 1) lv2 (by first | decide | with_reducible assumption | omega) (.inl ⟨rfl, fun v a b => by omega⟩) L2_0 L2_1 L2_2 L2_3 L2_4 L2_5
    obtain ⟨g2, hg2⟩ : ∃ g2, g2 = g + 2 ^ x := ⟨_, rfl⟩
    have hg2l : g2 < 512 := by rw [hg2]; exact isB_add_lt hL.2.2.1 (by first | decide | with_reducible assumption | omega) x3
    refine E_al rfl K0 ?_
    refine E_gr rfl hL.1 (q := 95) rfl ?_
    refine E_il rfl K3 ?_
    refine E_al rfl K0 ?_
    refine E_il rfl K4 ?_
    refine E_il rfl K2 ?_
    refine E_call rfl (Sp_le (by first | exact Nat.add_le_add_left (Nat.le_of_ble_eq_true rfl) _ | exact Nat.le_of_ble_eq_true rfl | omega) (sp_otherEnd (d := 0) hL.1 (by first | decide | with_reducible assumption | omega) (by first | decide | with_reducible assumption | omega))) (chk77 hL.1 rfl rfl (by show 2 ≤ 8; decide)) (fun h51 r51 => ?_)
    rintro ⟨e51, y51, f51, g51⟩
    obtain ⟨v9, hv9, rfl⟩ := g51 (by rw [hfe, hpe, x4]; decide)
    rw [e51, f51]
    show Ends _ _ (73, lv1, [.int (nJ v9), .int (nJ i), .ref 95], h, 0, 0) _
    refine E_ias rfl hL.1 rfl (by first | decide | with_reducible assumption | omega) (by decide) ?_
    have hh52 : HH (pt h 95 i (nJ v9)) := HH_ptn hL.1 (bd_u rfl (by first | decide | with_reducible assumption | omega)) (by first | decide | with_reducible assumption | omega) (by first | decide | with_reducible assumption | omega) (by first | decide | with_reducible assumption | omega)
    refine E_il rfl K2 ?_
    refine E_ci 1 rfl ci1 ?_
    refine E_il rfl K4 ?_
    refine E_bin rfl rfl ?_
    refine E_bin rfl (show nJ g ||| nJ 1 <<< (nJ x &&& 31) = nJ g2 from (by rw [hg2]; exact or_new hL.2.2.1 (by first | decide | with_reducible assumption | omega) x3)) ?_
    refine E_is rfl (fun lv53 L53_2 kp53 => ?_)
    have L53_0 := kp53 0 _ (nbz rfl) rfl K0
    have L53_1 := kp53 1 _ (nbz rfl) rfl K1
    have L53_3 := kp53 3 _ (nbz rfl) rfl K3
    have L53_4 := kp53 4 _ (nbz rfl) rfl K4
    refine E_inc rfl L53_3 (nJ_inc _) (fun lv54 L54_3 kp54 => ?_)
    have L54_0 := kp54 0 _ (nbz rfl) rfl L53_0
    have L54_1 := kp54 1 _ (nbz rfl) rfl L53_1
    have L54_2 := kp54 2 _ (nbz rfl) rfl L53_2
    have L54_4 := kp54 4 _ (nbz rfl) rfl L53_4
    refine E_goto rfl ?_
    exact ih lv54 (by first | decide | with_reducible assumption | omega) ⟨hh52, fr_ptr (l := 0) (u := 7) rfl (by first | decide | with_reducible assumption | omega) (by first | decide | with_reducible assumption | omega) hL.2.1, hg2l, by rw [hg2, pcn_add hL.2.2.1 (by first | decide | with_reducible assumption | omega) x3 (by first | decide | with_reducible assumption | omega), if_pos (by first | decide | with_reducible assumption | omega), hL.2.2.2.1], hg2 ▸ CI_step hP8 hL.2.2.1 (fun v a b => (hD v a b).2) hL.2.2.2.2 x2 x3 x4⟩ L54_0 L54_1 L54_2 L54_3
theorem sp_laysCode {h0 : pm_H} {d : Nat} (hh : HH h0) (hP1 : 1 ≤ gn h0 84 0) (hD : ∀ v, 1 ≤ v → v ≤ gn h0 84 0 → dep (hg h0) 8 v ∧ gn h0 92 v ≤ gn h0 84 0) : Sp (d + 4) 295 h0 [.ref 77] (fun h' r => r = none ∧ HH h' ∧ fr_g NM h0 h') := by
  refine Sp_of aiX9_laysCode rfl rfl rfl ?_
  refine E_al rfl (show pm_get (lv_args 0 [.ref 77]) 0 = _ from rfl) ?_
  refine E_call rfl (sp_places hh) (chk77 hh rfl rfl (by show 0 ≤ 8; decide)) (fun h1 r1 => ?_)
  rintro ⟨e1, f1, c1⟩
  rw [e1, f1]
  show Ends _ _ (4, (lv_args 0 [.ref 77]), [.int (nJ (gn h0 84 0))], h0, 0, 0) _
  refine E_ci 1 rfl ci1 ?_
  refine E_bin rfl (nJ_add _ _) ?_
  refine E_is rfl (fun lv2 L2_1 kp2 => ?_)
  have L2_0 := kp2 0 _ (nbz rfl) rfl (show pm_get (lv_args 0 [.ref 77]) 0 = _ from rfl)
  refine E_ci 0 rfl ci0 ?_
  refine E_is rfl (fun lv3 L3_2 kp3 => ?_)
  have L3_0 := kp3 0 _ (nbz rfl) rfl L2_0
  have L3_1 := kp3 1 _ (nbz rfl) rfl L2_1
  refine E_ci 0 rfl ci0 ?_
  refine E_is rfl (fun lv4 L4_3 kp4 => ?_)
  have L4_0 := kp4 0 _ (nbz rfl) rfl L3_0
  have L4_1 := kp4 1 _ (nbz rfl) rfl L3_1
  have L4_2 := kp4 2 _ (nbz rfl) rfl L3_2
  exact lc_out (P := gn h0 84 0) hh rfl (by first | decide | with_reducible assumption | omega) hP1 hD (gn h0 84 0 - 1) (i := 0) (g := 0) lv4 (by first | decide | with_reducible assumption | omega) ⟨hh, fr_rf _ _, by omega, pcn_zero _, 0, Nat.zero_le _, isB_zero _, fun v _ _ v3 => ⟨v3, isB_zero _⟩, .inl rfl⟩ L4_0 L4_1 L4_2 L4_3
theorem tp_code {h0 : pm_H} {d : Nat} {x : Int32} (hh0 : HH h0) (hR : RI 0 h0) : Sp (d + 30) 229 h0 [.ref 77, .int x] (TQ h0) := by
  refine Sp_of aiX9_code rfl rfl rfl ?_
  have L0 : pm_get (lv_args 0 [.ref 77, .int x]) 0 = some (.ref 77) := rfl
  have L1 : pm_get (lv_args 0 [.ref 77, .int x]) 1 = some (.int x) := rfl
  generalize lv_args 0 [.ref 77, .int x] = lv at L0 L1 ⊢
  refine E_al rfl L0 ?_
  refine E_ci 0 rfl ci0 ?_
  refine E_pf rfl hh0 rfl ?_
  have hh1 : HH (pt h0 77 0 (nJ 0)) := HH_ptn hh0 rfl (by first | decide | with_reducible assumption | omega) (by first | decide | with_reducible assumption | omega) (by first | decide | with_reducible assumption | omega)
  have fr1 : fr_g TM h0 (pt h0 77 0 (nJ 0)) := fr_ptr (l := 0) (u := 0) rfl (by first | decide | with_reducible assumption | omega) (by first | decide | with_reducible assumption | omega) (fr_rf TM h0)
  refine E_al rfl L0 ?_
  refine E_call rfl (sp_isStreet hh1) (chk77 hh1 rfl rfl (by show 0 ≤ 8; decide)) (fun h2 r2 => ?_)
  rintro ⟨e2, f2⟩
  rw [e2, f2]
  show Ends _ _ (9, lv, [.int (zb (0 < (gi (pt h0 77 0 (nJ 0)) 83 0).toInt))], (pt h0 77 0 (nJ 0)), 0, 0) _
  by_cases hb3 : ¬ (0 < (gi (pt h0 77 0 (nJ 0)) 83 0).toInt)
  · refine E_ifT rfl (by rw [zb_F hb3]; rfl) ?_
    refine E_c rfl ?_
    exact E_rti rfl ⟨hh1, fr1, _, rfl⟩
  · refine E_ifF rfl (by rw [zb_T (Classical.not_not.mp hb3)]; rfl) ?_
    refine E_il rfl L1 ?_
    by_cases hb4 : 0 ≤ x.toInt
    · refine E_ifT rfl (decide_eq_true (show (0 : Int32) ≤ x from Int32.le_iff_toInt_le.mpr hb4)) ?_
      obtain ⟨k, hk, rfl⟩ := nJ_of2 (n := 2147483647) hb4 (ai_hi x)
      refine E_al rfl L0 ?_
      refine E_call rfl (Sp_le (by first | exact Nat.add_le_add_left (Nat.le_of_ble_eq_true rfl) _ | exact Nat.le_of_ble_eq_true rfl | omega) (sp_lays (d := 0) hh1 (RI_fr hR rfl fr1))) (chk77 hh1 rfl rfl (by show 0 ≤ 8; decide)) (fun h5 r5 => ?_)
      rintro ⟨e5, hh5, fq5, wq5⟩
      rw [e5]
      have fr5 : fr_g TM h0 h5 := fr_trans fr1 (fr_wk rfl fq5)
      show Ends _ _ (23, lv, [], h5, 0, 0) _
      refine E_al rfl L0 ?_
      refine E_call rfl (Sp_le (by first | exact Nat.add_le_add_left (Nat.le_of_ble_eq_true rfl) _ | exact Nat.le_of_ble_eq_true rfl | omega) (sp_isLawful (d := 0) hh5)) (chk77 hh5 rfl rfl (by show 0 ≤ 8; decide)) (fun h6 r6 => ?_)
      rintro ⟨e6, f6⟩
      rw [e6]
      rcases f6 with f6 | ⟨f6, lw6⟩
      · rw [f6]
        show Ends _ _ (27, lv, [.int (nJ 0)], h5, 0, 0) _
        refine E_ifT rfl (by decide) ?_
        refine E_c rfl ?_
        exact E_rti rfl ⟨hh5, fr5, _, rfl⟩
      · rw [f6]
        show Ends _ _ (27, lv, [.int (nJ 1)], h5, 0, 0) _
        refine E_ifF rfl (by decide) ?_
        refine E_il rfl L1 ?_
        refine E_al rfl L0 ?_
        refine E_call rfl (sp_places hh5) (chk77 hh5 rfl rfl (by show 1 ≤ 8; decide)) (fun h7 r7 => ?_)
        rintro ⟨e7, f7, c7⟩
        rw [e7, f7]
        show Ends _ _ (35, lv, [.int (nJ (gn h5 84 0)), .int (nJ k)], h5, 0, 0) _
        refine E_ci 1 rfl ci1 ?_
        refine E_bin rfl (pI_of _) ?_
        by_cases hb8 : k + 1 < gn h5 84 0
        · refine E_icT rfl (decide_eq_true ((pI_lt (by first | decide | with_reducible assumption | omega) (by first | decide | with_reducible assumption | omega)).mpr hb8)) ?_
          have hP8 : gn h5 84 0 ≤ 8 := gn_hi hh5 rfl (by decide)
          have hCP := lw6.1
          refine E_al rfl L0 ?_
          refine E_call rfl (Sp_le (by first | exact Nat.add_le_add_left (Nat.le_of_ble_eq_true rfl) _ | exact Nat.le_of_ble_eq_true rfl | omega) (sp_laysTree (d := 0) hh5 lw6 wq5)) (chk77 hh5 rfl rfl (by show 0 ≤ 8; decide)) (fun h9 r9 => ?_)
          rintro ⟨e9, hh9, fq9, dq9⟩
          rw [e9]
          have fr9 : fr_g TM h0 h9 := fr_trans fr5 (fr_wk rfl fq9)
          have pe9 : gn h9 84 0 = gn h5 84 3 := by rw [fr_gn fq9 (rg_no rfl _)]; exact lw6.1.symm
          show Ends _ _ (46, lv, [], h9, 0, 0) _
          refine E_al rfl L0 ?_
          refine E_call rfl (Sp_le (by first | exact Nat.add_le_add_left (Nat.le_of_ble_eq_true rfl) _ | exact Nat.le_of_ble_eq_true rfl | omega) (sp_laysCode (d := 0) hh9 (by first | decide | with_reducible assumption | omega) (fun v h1 h2 => by have := dq9 v h1 (by first | decide | with_reducible assumption | omega); exact ⟨this.1, by omega⟩))) (chk77 hh9 rfl rfl (by show 0 ≤ 8; decide)) (fun h10 r10 => ?_)
          rintro ⟨e10, hh10, fq10⟩
          rw [e10]
          have fr10 : fr_g TM h0 h10 := fr_trans fr9 (fr_wk rfl fq10)
          show Ends _ _ (50, lv, [], h10, 0, 0) _
          refine E_al rfl L0 ?_
          refine E_gr rfl hh10 (q := 95) rfl ?_
          refine E_il rfl L1 ?_
          have b11 : gn h10 95 k ≤ 8 := gn_hi hh10 (bd_u rfl (by first | decide | with_reducible assumption | omega)) (by decide)
          refine E_ial rfl hh10 rfl (by first | decide | with_reducible assumption | omega) (by decide) (gi_gn hh10 (bd_u rfl (by first | decide | with_reducible assumption | omega)) (by decide)) ?_
          exact E_rti rfl ⟨hh10, fr10, _, rfl⟩
        · refine E_icF rfl (decide_eq_false (fun q => hb8 ((pI_lt (by first | decide | with_reducible assumption | omega) (by first | decide | with_reducible assumption | omega)).mp q))) ?_
          refine E_c rfl ?_
          exact E_rti rfl ⟨hh5, fr5, _, rfl⟩
    · refine E_ifF rfl (decide_eq_false (fun q => hb4 (Int32.le_iff_toInt_le.mp q))) ?_
      refine E_c rfl ?_
      exact E_rti rfl ⟨hh1, fr1, _, rfl⟩
end
section
/-! by hand: the ring (written by gen_t13.py) -/
noncomputable def QM : List Rng := [(90, 0, 9), (91, 0, 7)]
noncomputable def hq (h : pm_H) (q : Nat) : Int := (gi h 90 q).toInt
theorem hq_m1 {h : pm_H} {q : Nat} : gi h 90 q = -1 ↔ hq h q = -1 := ⟨fun e => by unfold hq; rw [e]; rfl, fun e => Int32.toInt_inj.mp e⟩
noncomputable def RF (h0 h : pm_H) (P c : Nat) : Prop := HH h ∧ fr_g QM h0 h ∧ cntf (hq h) 10 (P + 1) ≤ c
theorem RF_add {h0 h : pm_H} {P c v : Nat} (hP : P ≤ 8) (hc : c < 8) (R : RF h0 h P c) (h1 : 1 ≤ v) (h2 : v ≤ P + 1) : RF h0 (pt (pt h 90 v (nJ c)) 91 c (nJ v)) P (c + 1) := by
  obtain ⟨r1, r2, r3⟩ := R
  have hh1 : HH (pt h 90 v (nJ c)) := HH_ptn r1 (bd_u rfl (by first | decide | with_reducible assumption | omega)) (by first | decide | with_reducible assumption | omega) (by first | decide | with_reducible assumption | omega) (by first | decide | with_reducible assumption | omega)
  have hh2 : HH (pt (pt h 90 v (nJ c)) 91 c (nJ v)) := HH_ptn hh1 (bd_u rfl (by first | decide | with_reducible assumption | omega)) (by first | decide | with_reducible assumption | omega) (by first | decide | with_reducible assumption | omega) (by first | decide | with_reducible assumption | omega)
  refine ⟨hh2, fr_ptr (l := 0) (u := 7) rfl (by first | decide | with_reducible assumption | omega) (by first | decide | with_reducible assumption | omega) (fr_ptr (l := 0) (u := 9) rfl (by first | decide | with_reducible assumption | omega) (by first | decide | with_reducible assumption | omega) r2), ?_⟩
  have e : ∀ q, q ≤ P + 1 → q ≠ v → hq (pt (pt h 90 v (nJ c)) 91 c (nJ v)) q = hq h q := fun q _ hq' => by
    unfold hq
    rw [gi_ne (by first | exact gxx rfl | omega), gi_ne (fun _ => hq')]
  have k1 := cntf_inc (f := hq h) (g := hq (pt (pt h 90 v (nJ c)) 91 c (nJ v))) (v := v) (R := P + 1) e (by first | decide | with_reducible assumption | omega)
  rw [if_pos h2] at k1
  cases cntf_weak (f := hq h) (v := v) (P + 1) with
  | inl q => omega
  | inr q => omega
theorem sp_shiftedOf {h : pm_H} {d c s : Nat} (hh : HH h) (hc : c < 8) (hs : s ≤ 8) (hw : 1 ≤ gn h 89 c) : Sp (d + 2) 346 h [.ref 77, .int (nJ c), .int (nJ s)] (fun h' r => h' = h ∧ r = some (.int (nJ ((gn h 89 c - 1 + s) % (gn h 84 0 + 1) + 1)))) := by
  refine Sp_of aiX9_shiftedOf rfl rfl rfl ?_
  refine E_al rfl (show pm_get (lv_args 0 [.ref 77, .int (nJ c), .int (nJ s)]) 0 = _ from rfl) ?_
  refine E_gr rfl hh (q := 89) rfl ?_
  refine E_il rfl (show pm_get (lv_args 0 [.ref 77, .int (nJ c), .int (nJ s)]) 1 = _ from rfl) ?_
  have b1 : gn h 89 c ≤ 8 := gn_hi hh (bd_u rfl (by first | decide | with_reducible assumption | omega)) (by decide)
  refine E_ial rfl hh rfl (by first | decide | with_reducible assumption | omega) (by decide) (gi_gn hh (bd_u rfl (by first | decide | with_reducible assumption | omega)) (by decide)) ?_
  refine E_ci 1 rfl ci1 ?_
  refine E_bin rfl (nJ_sub (by first | decide | with_reducible assumption | omega)) ?_
  refine E_il rfl (show pm_get (lv_args 0 [.ref 77, .int (nJ c), .int (nJ s)]) 2 = _ from rfl) ?_
  refine E_bin rfl (nJ_add _ _) ?_
  refine E_al rfl (show pm_get (lv_args 0 [.ref 77, .int (nJ c), .int (nJ s)]) 0 = _ from rfl) ?_
  refine E_call rfl (sp_places hh) (chk77 hh rfl rfl (by show 1 ≤ 8; decide)) (fun h2 r2 => ?_)
  rintro ⟨e2, f2, c2⟩
  rw [e2, f2]
  show Ends _ _ (14, (lv_args 0 [.ref 77, .int (nJ c), .int (nJ s)]), [.int (nJ (gn h 84 0)), .int (nJ (((gn h 89 c) - 1) + s))], h, 0, 0) _
  refine E_ci 1 rfl ci1 ?_
  refine E_bin rfl (nJ_add _ _) ?_
  refine E_div rfl (fun q => absurd ((nJ_eq0 (by first | decide | with_reducible assumption | omega)).mp q) (by first | decide | with_reducible assumption | omega)) (nJ_mod (by first | decide | with_reducible assumption | omega) (by first | decide | with_reducible assumption | omega) (by first | decide | with_reducible assumption | omega)) ?_
  refine E_ci 1 rfl ci1 ?_
  refine E_bin rfl (nJ_add _ _) ?_
  exact E_rti rfl ⟨rfl, rfl⟩
theorem rf_last {h0 h : pm_H} {d P : Nat} (hP8 : P ≤ 8) (hh : HH h) (hfr : fr_g QM h0 h) (j : Nat) : ∀ {p : Nat} (lv : List (Nat × Value)), p + j = P + 2 → pm_get lv 0 = some (.ref 77) → pm_get lv 2 = some (.int (nJ (P + 1))) → pm_get lv 3 = some (.int (nJ p)) → Ends (pm_at tX9_ringFree) (pm_Rt pm_P (d + 2)) (92, lv, [], h, 0, 0) (fun h' r => HH h' ∧ fr_g QM h0 h' ∧ ∃ x : Int32, r = some (.int x)) := by
  induction j with
  | zero =>
    intro p lv hj L0 L2 L3
    refine E_il rfl L3 ?_
    refine E_il rfl L2 ?_
    refine E_icT rfl (decide_eq_true ((nJ_lt (by first | decide | with_reducible assumption | omega) (by first | decide | with_reducible assumption | omega)).mpr (by first | decide | with_reducible assumption | omega))) ?_
    refine E_c rfl ?_
    exact E_rti rfl ⟨hh, hfr, _, rfl⟩
  | succ j ih =>
    intro p lv hj L0 L2 L3
    refine E_il rfl L3 ?_
    refine E_il rfl L2 ?_
    refine E_icF rfl (decide_eq_false (fun q => absurd ((nJ_lt (by first | decide | with_reducible assumption | omega) (by first | decide | with_reducible assumption | omega)).mp q) (by first | decide | with_reducible assumption | omega))) ?_
    refine E_al rfl L0 ?_
    refine E_gr rfl hh (q := 90) rfl ?_
    refine E_il rfl L3 ?_
    refine E_ial rfl hh rfl (by first | decide | with_reducible assumption | omega) (by decide) (show gi h 90 p = (gi h 90 p) from rfl) ?_
    refine E_c rfl ?_
    by_cases hb1 : ¬ (gi h 90 p) = -1
    · refine E_icT rfl (decide_eq_true hb1) ?_
      refine E_inc rfl L3 (nJ_inc _) (fun lv2 L2_3 kp2 => ?_)
      have L2_0 := kp2 0 _ (nbz rfl) rfl L0
      have L2_2 := kp2 2 _ (nbz rfl) rfl L2
      refine E_goto rfl ?_
      exact ih lv2 (by first | decide | with_reducible assumption | omega) L2_0 L2_2 L2_3
    · refine E_icF rfl (decide_eq_false hb1) ?_
      refine E_il rfl L3 ?_
      exact E_rti rfl ⟨hh, hfr, _, rfl⟩
theorem rf_in {h0 h : pm_H} {d P s c : Nat} (hP8 : P ≤ 8) (hc : c < 8) (R : RF h0 h P c) (K : ∀ {h : pm_H} (lv : List (Nat × Value)), RF h0 h P (c + 1) → pm_get lv 0 = some (.ref 77) → pm_get lv 1 = some (.int (nJ s)) → pm_get lv 2 = some (.int (nJ (P + 1))) → pm_get lv 3 = some (.int (nJ (c + 1))) → Ends (pm_at tX9_ringFree) (pm_Rt pm_P (d + 2)) (30, lv, [], h, 0, 0) (fun h' r => HH h' ∧ fr_g QM h0 h' ∧ ∃ x : Int32, r = some (.int x))) (e : Nat) : ∀ {v : Nat} (lv : List (Nat × Value)), 1 ≤ v → v ≤ P + 1 → hfd (hq h) (P + 1) e v → pm_get lv 0 = some (.ref 77) → pm_get lv 1 = some (.int (nJ s)) → pm_get lv 2 = some (.int (nJ (P + 1))) → pm_get lv 3 = some (.int (nJ c)) → pm_get lv 4 = some (.int (nJ v)) → Ends (pm_at tX9_ringFree) (pm_Rt pm_P (d + 2)) (46, lv, [], h, 0, 0) (fun h' r => HH h' ∧ fr_g QM h0 h' ∧ ∃ x : Int32, r = some (.int x)) := by
  induction e with
  | zero =>
    intro v lv hv1 hv2 hd L0 L1 L2 L3 L4
    have hd : hq h v = -1 := hd
    refine E_al rfl L0 ?_
    refine E_gr rfl R.1 (q := 90) rfl ?_
    refine E_il rfl L4 ?_
    refine E_ial rfl R.1 rfl (by first | decide | with_reducible assumption | omega) (by decide) (show gi h 90 v = (gi h 90 v) from rfl) ?_
    refine E_c rfl ?_
    refine E_icT rfl (decide_eq_true (hq_m1.mpr hd)) ?_
    refine E_al rfl L0 ?_
    refine E_gr rfl R.1 (q := 90) rfl ?_
    refine E_il rfl L4 ?_
    refine E_il rfl L3 ?_
    refine E_ias rfl R.1 rfl (by first | decide | with_reducible assumption | omega) (by decide) ?_
    have hh1 : HH (pt h 90 v (nJ c)) := HH_ptn R.1 (bd_u rfl (by first | decide | with_reducible assumption | omega)) (by first | decide | with_reducible assumption | omega) (by first | decide | with_reducible assumption | omega) (by first | decide | with_reducible assumption | omega)
    refine E_al rfl L0 ?_
    refine E_gr rfl hh1 (q := 91) rfl ?_
    refine E_il rfl L3 ?_
    refine E_il rfl L4 ?_
    refine E_ias rfl hh1 rfl (by first | decide | with_reducible assumption | omega) (by decide) ?_
    have hh2 : HH (pt (pt h 90 v (nJ c)) 91 c (nJ v)) := HH_ptn hh1 (bd_u rfl (by first | decide | with_reducible assumption | omega)) (by first | decide | with_reducible assumption | omega) (by first | decide | with_reducible assumption | omega) (by first | decide | with_reducible assumption | omega)
    refine E_inc rfl L3 (nJ_inc _) (fun lv3 L3_3 kp3 => ?_)
    have L3_0 := kp3 0 _ (nbz rfl) rfl L0
    have L3_1 := kp3 1 _ (nbz rfl) rfl L1
    have L3_2 := kp3 2 _ (nbz rfl) rfl L2
    have L3_4 := kp3 4 _ (nbz rfl) rfl L4
    refine E_goto rfl ?_
    exact K lv3 (RF_add hP8 hc R hv1 hv2) L3_0 L3_1 L3_2 L3_3
  | succ e ih =>
    intro v lv hv1 hv2 hd L0 L1 L2 L3 L4
    refine E_al rfl L0 ?_
    refine E_gr rfl R.1 (q := 90) rfl ?_
    refine E_il rfl L4 ?_
    refine E_ial rfl R.1 rfl (by first | decide | with_reducible assumption | omega) (by decide) (show gi h 90 v = (gi h 90 v) from rfl) ?_
    refine E_c rfl ?_
    by_cases hb1 : (gi h 90 v) = -1
    · refine E_icT rfl (decide_eq_true hb1) ?_
      refine E_al rfl L0 ?_
      refine E_gr rfl R.1 (q := 90) rfl ?_
      refine E_il rfl L4 ?_
      refine E_il rfl L3 ?_
      refine E_ias rfl R.1 rfl (by first | decide | with_reducible assumption | omega) (by decide) ?_
      have hh2 : HH (pt h 90 v (nJ c)) := HH_ptn R.1 (bd_u rfl (by first | decide | with_reducible assumption | omega)) (by first | decide | with_reducible assumption | omega) (by first | decide | with_reducible assumption | omega) (by first | decide | with_reducible assumption | omega)
      refine E_al rfl L0 ?_
      refine E_gr rfl hh2 (q := 91) rfl ?_
      refine E_il rfl L3 ?_
      refine E_il rfl L4 ?_
      refine E_ias rfl hh2 rfl (by first | decide | with_reducible assumption | omega) (by decide) ?_
      have hh3 : HH (pt (pt h 90 v (nJ c)) 91 c (nJ v)) := HH_ptn hh2 (bd_u rfl (by first | decide | with_reducible assumption | omega)) (by first | decide | with_reducible assumption | omega) (by first | decide | with_reducible assumption | omega) (by first | decide | with_reducible assumption | omega)
      refine E_inc rfl L3 (nJ_inc _) (fun lv4 L4_3 kp4 => ?_)
      have L4_0 := kp4 0 _ (nbz rfl) rfl L0
      have L4_1 := kp4 1 _ (nbz rfl) rfl L1
      have L4_2 := kp4 2 _ (nbz rfl) rfl L2
      have L4_4 := kp4 4 _ (nbz rfl) rfl L4
      refine E_goto rfl ?_
      exact K lv4 (RF_add hP8 hc R hv1 hv2) L4_0 L4_1 L4_2 L4_3
    · refine E_icF rfl (decide_eq_false hb1) ?_
      have hmd := Nat.mod_lt v (show 0 < P + 1 by omega)
      refine E_il rfl L4 ?_
      refine E_il rfl L2 ?_
      refine E_div rfl (fun q => absurd ((nJ_eq0 (by first | decide | with_reducible assumption | omega)).mp q) (by first | decide | with_reducible assumption | omega)) (nJ_mod (by first | decide | with_reducible assumption | omega) (by first | decide | with_reducible assumption | omega) (by first | decide | with_reducible assumption | omega)) ?_
      refine E_ci 1 rfl ci1 ?_
      refine E_bin rfl (nJ_add _ _) ?_
      refine E_is rfl (fun lv5 L5_4 kp5 => ?_)
      have L5_0 := kp5 0 _ (nbz rfl) rfl L0
      have L5_1 := kp5 1 _ (nbz rfl) rfl L1
      have L5_2 := kp5 2 _ (nbz rfl) rfl L2
      have L5_3 := kp5 3 _ (nbz rfl) rfl L3
      refine E_goto rfl ?_
      refine ih lv5 (by first | decide | with_reducible assumption | omega) (by first | decide | with_reducible assumption | omega) ?_ L5_0 L5_1 L5_2 L5_3 L5_4
      cases hd with
      | inl q => exact absurd (hq_m1.mpr q) hb1
      | inr q => exact q
theorem rf_cars {h0 : pm_H} {d P C s : Nat} (hh0 : HH h0) (hP : gn h0 84 0 = P) (hC : gn h0 84 3 = C) (hP8 : P ≤ 8) (hCP : C ≤ P) (hs : s ≤ 8) (hw : ∀ c, c < C → 1 ≤ gn h0 89 c) (j : Nat) : ∀ {h : pm_H} {c : Nat} (lv : List (Nat × Value)), c + j = C → RF h0 h P c → pm_get lv 0 = some (.ref 77) → pm_get lv 1 = some (.int (nJ s)) → pm_get lv 2 = some (.int (nJ (P + 1))) → pm_get lv 3 = some (.int (nJ c)) → Ends (pm_at tX9_ringFree) (pm_Rt pm_P (d + 2)) (30, lv, [], h, 0, 0) (fun h' r => HH h' ∧ fr_g QM h0 h' ∧ ∃ x : Int32, r = some (.int x)) := by
  induction j with
  | zero =>
    intro h c lv hj R L0 L1 L2 L3
    have hce : gn h 84 3 = C := by rw [fr_gn R.2.1 (rg_no rfl _)]; exact hC
    refine E_il rfl L3 ?_
    refine E_al rfl L0 ?_
    refine E_call rfl (sp_cars R.1) (chk77 R.1 rfl rfl (by show 1 ≤ 8; decide)) (fun h1 r1 => ?_)
    rintro ⟨e1, f1, c1⟩
    rw [e1, f1]
    show Ends _ _ (35, lv, [.int (nJ (gn h 84 3)), .int (nJ c)], h, 0, 0) _
    refine E_icT rfl (decide_eq_true ((nJ_le (by first | decide | with_reducible assumption | omega) (by first | decide | with_reducible assumption | omega)).mpr (by first | decide | with_reducible assumption | omega))) ?_
    refine E_ci 1 rfl ci1 ?_
    refine E_is rfl (fun lv2 L2_3 kp2 => ?_)
    have L2_0 := kp2 0 _ (nbz rfl) rfl L0
    have L2_1 := kp2 1 _ (nbz rfl) rfl L1
    have L2_2 := kp2 2 _ (nbz rfl) rfl L2
    exact rf_last hP8 R.1 R.2.1 (P + 1) (p := 1) lv2 (by first | decide | with_reducible assumption | omega) L2_0 L2_2 L2_3
  | succ j ih =>
    intro h c lv hj R L0 L1 L2 L3
    have hce : gn h 84 3 = C := by rw [fr_gn R.2.1 (rg_no rfl _)]; exact hC
    have hpe : gn h 84 0 = P := by rw [fr_gn R.2.1 (rg_no rfl _)]; exact hP
    refine E_il rfl L3 ?_
    refine E_al rfl L0 ?_
    refine E_call rfl (sp_cars R.1) (chk77 R.1 rfl rfl (by show 1 ≤ 8; decide)) (fun h1 r1 => ?_)
    rintro ⟨e1, f1, c1⟩
    rw [e1, f1]
    show Ends _ _ (35, lv, [.int (nJ (gn h 84 3)), .int (nJ c)], h, 0, 0) _
    refine E_icF rfl (decide_eq_false (fun q => absurd ((nJ_le (by first | decide | with_reducible assumption | omega) (by first | decide | with_reducible assumption | omega)).mp q) (by first | decide | with_reducible assumption | omega))) ?_
    refine E_al rfl L0 ?_
    refine E_il rfl L3 ?_
    refine E_il rfl L1 ?_
    have hwc : gn h 89 c = gn h0 89 c := fr_gn R.2.1 (rg_no rfl _)
    refine E_call rfl (Sp_le (by first | exact Nat.add_le_add_left (Nat.le_of_ble_eq_true rfl) _ | exact Nat.le_of_ble_eq_true rfl | omega) (sp_shiftedOf (d := 0) R.1 (by first | decide | with_reducible assumption | omega) hs (by rw [hwc]; exact hw c (by first | decide | with_reducible assumption | omega)))) (chk77 R.1 rfl rfl (by show 0 ≤ 8; decide)) (fun h2 r2 => ?_)
    rintro ⟨e2, f2⟩
    rw [e2, f2, hpe]
    obtain ⟨v, hv⟩ : ∃ v, v = (gn h 89 c - 1 + s) % (P + 1) + 1 := ⟨_, rfl⟩
    have hmd := Nat.mod_lt (gn h 89 c - 1 + s) (show 0 < P + 1 by omega)
    rw [← hv]
    show Ends _ _ (44, lv, [.int (nJ v)], h, 0, 0) _
    refine E_is rfl (fun lv3 L3_4 kp3 => ?_)
    have L3_0 := kp3 0 _ (nbz rfl) rfl L0
    have L3_1 := kp3 1 _ (nbz rfl) rfl L1
    have L3_2 := kp3 2 _ (nbz rfl) rfl L2
    have L3_3 := kp3 3 _ (nbz rfl) rfl L3
    exact rf_in hP8 (by first | decide | with_reducible assumption | omega) R (fun lv' R' a b c e => ih lv' (by first | decide | with_reducible assumption | omega) R' a b c e) P lv3 (by first | decide | with_reducible assumption | omega) (by first | decide | with_reducible assumption | omega) (hfd_free (R := P + 1) (by first | decide | with_reducible assumption | omega) (by have := R.2.2; omega) (by first | decide | with_reducible assumption | omega) (by first | decide | with_reducible assumption | omega)) L3_0 L3_1 L3_2 L3_3 L3_4
theorem rf_zero {h0 : pm_H} {d P C s : Nat} (hh0 : HH h0) (hP : gn h0 84 0 = P) (hC : gn h0 84 3 = C) (hP8 : P ≤ 8) (hCP : C ≤ P) (hs : s ≤ 8) (hw : ∀ c, c < C → 1 ≤ gn h0 89 c) (j : Nat) : ∀ {h : pm_H} {p : Nat} (lv : List (Nat × Value)), p + j = 10 → HH h → fr_g QM h0 h → (∀ q, q < p → gi h 90 q = -1) → pm_get lv 0 = some (.ref 77) → pm_get lv 1 = some (.int (nJ s)) → pm_get lv 2 = some (.int (nJ (P + 1))) → pm_get lv 3 = some (.int (nJ p)) → Ends (pm_at tX9_ringFree) (pm_Rt pm_P (d + 2)) (9, lv, [], h, 0, 0) (fun h' r => HH h' ∧ fr_g QM h0 h' ∧ ∃ x : Int32, r = some (.int x)) := by
  induction j with
  | zero =>
    intro h p lv hj hh hfr hz L0 L1 L2 L3
    refine E_il rfl L3 ?_
    refine E_ci 10 rfl ci10 ?_
    refine E_icT rfl (decide_eq_true ((nJ_le (by first | decide | with_reducible assumption | omega) (by first | decide | with_reducible assumption | omega)).mpr (by first | decide | with_reducible assumption | omega))) ?_
    refine E_ci 0 rfl ci0 ?_
    refine E_is rfl (fun lv1 L1_3 kp1 => ?_)
    have L1_0 := kp1 0 _ (nbz rfl) rfl L0
    have L1_1 := kp1 1 _ (nbz rfl) rfl L1
    have L1_2 := kp1 2 _ (nbz rfl) rfl L2
    exact rf_cars hh0 hP hC hP8 hCP hs hw C (c := 0) lv1 (by first | decide | with_reducible assumption | omega) ⟨hh, hfr, by rw [cntf_zero (fun q _ h2 => hq_m1.mp (hz q (by first | decide | with_reducible assumption | omega)))]; omega⟩ L1_0 L1_1 L1_2 L1_3
  | succ j ih =>
    intro h p lv hj hh hfr hz L0 L1 L2 L3
    refine E_il rfl L3 ?_
    refine E_ci 10 rfl ci10 ?_
    refine E_icF rfl (decide_eq_false (fun q => absurd ((nJ_le (by first | decide | with_reducible assumption | omega) (by first | decide | with_reducible assumption | omega)).mp q) (by first | decide | with_reducible assumption | omega))) ?_
    refine E_al rfl L0 ?_
    refine E_gr rfl hh (q := 90) rfl ?_
    refine E_il rfl L3 ?_
    refine E_c rfl ?_
    refine E_ias rfl hh rfl (by first | decide | with_reducible assumption | omega) (by decide) ?_
    have hh1 : HH (pt h 90 p (-1)) := HH_pt hh (bd_u rfl (by first | decide | with_reducible assumption | omega)) (by decide) (by decide)
    refine E_inc rfl L3 (nJ_inc _) (fun lv2 L2_3 kp2 => ?_)
    have L2_0 := kp2 0 _ (nbz rfl) rfl L0
    have L2_1 := kp2 1 _ (nbz rfl) rfl L1
    have L2_2 := kp2 2 _ (nbz rfl) rfl L2
    refine E_goto rfl ?_
    refine ih lv2 (by first | decide | with_reducible assumption | omega) hh1 (fr_ptr (l := 0) (u := 9) rfl (by first | decide | with_reducible assumption | omega) (by first | decide | with_reducible assumption | omega) hfr) (fun q hq1 => ?_) L2_0 L2_1 L2_2 L2_3
    by_cases e : q = p
    · rw [e]; exact gi_pt hh (bd_u rfl (by first | decide | with_reducible assumption | omega)) (by decide) (by decide)
    · rw [gi_ne (fun _ => e)]; exact hz q (by first | decide | with_reducible assumption | omega)
theorem sp_ringFree {h0 : pm_H} {d s : Nat} (hh : HH h0) (hCP : gn h0 84 3 ≤ gn h0 84 0) (hs : s ≤ 8) (hw : ∀ c, c < gn h0 84 3 → 1 ≤ gn h0 89 c) : Sp (d + 3) 336 h0 [.ref 77, .int (nJ s)] (fun h' r => HH h' ∧ fr_g QM h0 h' ∧ ∃ x : Int32, r = some (.int x)) := by
  refine Sp_of aiX9_ringFree rfl rfl rfl ?_
  refine E_al rfl (show pm_get (lv_args 0 [.ref 77, .int (nJ s)]) 0 = _ from rfl) ?_
  refine E_call rfl (sp_places hh) (chk77 hh rfl rfl (by show 0 ≤ 8; decide)) (fun h1 r1 => ?_)
  rintro ⟨e1, f1, c1⟩
  rw [e1, f1]
  show Ends _ _ (4, (lv_args 0 [.ref 77, .int (nJ s)]), [.int (nJ (gn h0 84 0))], h0, 0, 0) _
  refine E_ci 1 rfl ci1 ?_
  refine E_bin rfl (nJ_add _ _) ?_
  refine E_is rfl (fun lv2 L2_2 kp2 => ?_)
  have L2_0 := kp2 0 _ (nbz rfl) rfl (show pm_get (lv_args 0 [.ref 77, .int (nJ s)]) 0 = _ from rfl)
  have L2_1 := kp2 1 _ (nbz rfl) rfl (show pm_get (lv_args 0 [.ref 77, .int (nJ s)]) 1 = _ from rfl)
  refine E_ci 0 rfl ci0 ?_
  refine E_is rfl (fun lv3 L3_3 kp3 => ?_)
  have L3_0 := kp3 0 _ (nbz rfl) rfl L2_0
  have L3_1 := kp3 1 _ (nbz rfl) rfl L2_1
  have L3_2 := kp3 2 _ (nbz rfl) rfl L2_2
  exact rf_zero hh rfl rfl (by first | decide | with_reducible assumption | omega) hCP hs hw 10 (p := 0) lv3 (by first | decide | with_reducible assumption | omega) hh (fr_rf _ _) (fun q hq1 => absurd hq1 (Nat.not_lt_zero _)) L3_0 L3_1 L3_2 L3_3
theorem tp_ring {h0 : pm_H} {d : Nat} {x : Int32} (hh0 : HH h0) (hR : RI 0 h0) : Sp (d + 30) 335 h0 [.ref 77, .int x] (TQ h0) := by
  refine Sp_of aiX9_ring rfl rfl rfl ?_
  have L0 : pm_get (lv_args 0 [.ref 77, .int x]) 0 = some (.ref 77) := rfl
  have L1 : pm_get (lv_args 0 [.ref 77, .int x]) 1 = some (.int x) := rfl
  generalize lv_args 0 [.ref 77, .int x] = lv at L0 L1 ⊢
  refine E_al rfl L0 ?_
  refine E_ci 0 rfl ci0 ?_
  refine E_pf rfl hh0 rfl ?_
  have hh1 : HH (pt h0 77 0 (nJ 0)) := HH_ptn hh0 rfl (by first | decide | with_reducible assumption | omega) (by first | decide | with_reducible assumption | omega) (by first | decide | with_reducible assumption | omega)
  have fr1 : fr_g TM h0 (pt h0 77 0 (nJ 0)) := fr_ptr (l := 0) (u := 0) rfl (by first | decide | with_reducible assumption | omega) (by first | decide | with_reducible assumption | omega) (fr_rf TM h0)
  refine E_al rfl L0 ?_
  refine E_il rfl L1 ?_
  refine E_i2l rfl ?_
  refine E_call rfl (sp_isCar hh1) (chk77 hh1 rfl rfl (by show 0 ≤ 8; decide)) (fun h2 r2 => ?_)
  rintro ⟨e2, f2⟩
  rw [e2, f2]
  show Ends _ _ (11, lv, [.int (zb (0 ≤ x.toInt ∧ x.toInt ≤ (gn (pt h0 77 0 (nJ 0)) 84 3 : Int) - 1))], (pt h0 77 0 (nJ 0)), 0, 0) _
  by_cases hb3 : 0 ≤ x.toInt ∧ x.toInt ≤ (gn (pt h0 77 0 (nJ 0)) 84 3 : Int) - 1
  · refine E_ifT rfl (by rw [zb_T hb3]; rfl) ?_
    have hC8 : gn (pt h0 77 0 (nJ 0)) 84 3 ≤ 8 := gn_hi hh1 rfl (by decide)
    obtain ⟨k, hk, rfl⟩ := nJ_of2 (n := gn (pt h0 77 0 (nJ 0)) 84 3 - 1) hb3.1 (by have := hb3.2; have := hb3.1; omega)
    have hk2 : k < gn (pt h0 77 0 (nJ 0)) 84 3 := by have h9 := hb3.2; have h8 := hb3.1; rw [nJ_toInt (by first | decide | with_reducible assumption | omega)] at h9; omega
    refine E_al rfl L0 ?_
    refine E_call rfl (Sp_le (by first | exact Nat.add_le_add_left (Nat.le_of_ble_eq_true rfl) _ | exact Nat.le_of_ble_eq_true rfl | omega) (sp_lays (d := 0) hh1 (RI_fr hR rfl fr1))) (chk77 hh1 rfl rfl (by show 0 ≤ 8; decide)) (fun h4 r4 => ?_)
    rintro ⟨e4, hh4, fq4, wq4⟩
    rw [e4]
    have fr4 : fr_g TM h0 h4 := fr_trans fr1 (fr_wk rfl fq4)
    show Ends _ _ (21, lv, [], h4, 0, 0) _
    refine E_al rfl L0 ?_
    refine E_ci 0 rfl ci0 ?_
    refine E_call rfl (Sp_le (by first | exact Nat.add_le_add_left (Nat.le_of_ble_eq_true rfl) _ | exact Nat.le_of_ble_eq_true rfl | omega) (sp_ringFree (d := 0) hh4 (RI_fr hR rfl fr4).1 (by first | decide | with_reducible assumption | omega) wq4)) (chk77 hh4 rfl rfl (by show 0 ≤ 8; decide)) (fun h5 r5 => ?_)
    rintro ⟨hh5, fq5, x5, f5⟩
    rw [f5]
    have fr5 : fr_g TM h0 h5 := fr_trans fr4 (fr_wk rfl fq5)
    have pe5 : gn h5 84 0 = gn h4 84 0 := fr_gn fq5 (rg_no rfl _)
    show Ends _ _ (26, lv, [.int x5], h5, 0, 0) _
    refine E_pop rfl rfl ?_
    refine E_al rfl L0 ?_
    refine E_gr rfl hh5 (q := 91) rfl ?_
    refine E_il rfl L1 ?_
    refine E_ial rfl hh5 rfl (by first | decide | with_reducible assumption | omega) (by decide) (show gi h5 91 k = (gi h5 91 k) from rfl) ?_
    exact E_rti rfl ⟨hh5, fr5, _, rfl⟩
  · refine E_ifF rfl (by rw [zb_F hb3]; rfl) ?_
    refine E_c rfl ?_
    exact E_rti rfl ⟨hh1, fr1, _, rfl⟩
theorem tp_hole {h0 : pm_H} {d : Nat} (hh0 : HH h0) (hR : RI 0 h0) : Sp (d + 30) 259 h0 [.ref 77] (TQ h0) := by
  refine Sp_of aiX9_hole rfl rfl rfl ?_
  have L0 : pm_get (lv_args 0 [.ref 77]) 0 = some (.ref 77) := rfl
  generalize lv_args 0 [.ref 77] = lv at L0 ⊢
  refine E_al rfl L0 ?_
  refine E_ci 0 rfl ci0 ?_
  refine E_pf rfl hh0 rfl ?_
  have hh1 : HH (pt h0 77 0 (nJ 0)) := HH_ptn hh0 rfl (by first | decide | with_reducible assumption | omega) (by first | decide | with_reducible assumption | omega) (by first | decide | with_reducible assumption | omega)
  have fr1 : fr_g TM h0 (pt h0 77 0 (nJ 0)) := fr_ptr (l := 0) (u := 0) rfl (by first | decide | with_reducible assumption | omega) (by first | decide | with_reducible assumption | omega) (fr_rf TM h0)
  refine E_al rfl L0 ?_
  refine E_call rfl (sp_isStreet hh1) (chk77 hh1 rfl rfl (by show 0 ≤ 8; decide)) (fun h2 r2 => ?_)
  rintro ⟨e2, f2⟩
  rw [e2, f2]
  show Ends _ _ (9, lv, [.int (zb (0 < (gi (pt h0 77 0 (nJ 0)) 83 0).toInt))], (pt h0 77 0 (nJ 0)), 0, 0) _
  by_cases hb3 : 0 < (gi (pt h0 77 0 (nJ 0)) 83 0).toInt
  · refine E_ifT rfl (by rw [zb_T hb3]; rfl) ?_
    refine E_al rfl L0 ?_
    refine E_call rfl (Sp_le (by first | exact Nat.add_le_add_left (Nat.le_of_ble_eq_true rfl) _ | exact Nat.le_of_ble_eq_true rfl | omega) (sp_lays (d := 0) hh1 (RI_fr hR rfl fr1))) (chk77 hh1 rfl rfl (by show 0 ≤ 8; decide)) (fun h4 r4 => ?_)
    rintro ⟨e4, hh4, fq4, wq4⟩
    rw [e4]
    have fr4 : fr_g TM h0 h4 := fr_trans fr1 (fr_wk rfl fq4)
    show Ends _ _ (19, lv, [], h4, 0, 0) _
    refine E_al rfl L0 ?_
    refine E_ci 0 rfl ci0 ?_
    refine E_call rfl (Sp_le (by first | exact Nat.add_le_add_left (Nat.le_of_ble_eq_true rfl) _ | exact Nat.le_of_ble_eq_true rfl | omega) (sp_ringFree (d := 0) hh4 (RI_fr hR rfl fr4).1 (by first | decide | with_reducible assumption | omega) wq4)) (chk77 hh4 rfl rfl (by show 0 ≤ 8; decide)) (fun h5 r5 => ?_)
    rintro ⟨hh5, fq5, x5, f5⟩
    rw [f5]
    have fr5 : fr_g TM h0 h5 := fr_trans fr4 (fr_wk rfl fq5)
    have pe5 : gn h5 84 0 = gn h4 84 0 := fr_gn fq5 (rg_no rfl _)
    show Ends _ _ (24, lv, [.int x5], h5, 0, 0) _
    exact E_rti rfl ⟨hh5, fr5, _, rfl⟩
  · refine E_ifF rfl (by rw [zb_F hb3]; rfl) ?_
    refine E_c rfl ?_
    exact E_rti rfl ⟨hh1, fr1, _, rfl⟩
theorem sf_loop {h0 : pm_H} {d P : Nat} (hR : RI 0 h0) (hP8 : P ≤ 8) (j : Nat) : ∀ {h : pm_H} {b : Int32} {k : Nat} (lv : List (Nat × Value)), k + j = P + 1 → HH h → fr_g TM h0 h → (∀ c, c < gn h 84 3 → 1 ≤ gn h 89 c) → gn h 84 0 = P → pm_get lv 0 = some (.ref 77) → pm_get lv 1 = some (.int b) → pm_get lv 2 = some (.int (nJ k)) → Ends (pm_at tX9_shifts) (pm_Rt pm_P (d + 29)) (23, lv, [], h, 0, 0) (TQ h0) := by
  induction j with
  | zero =>
    intro h b k lv hj hh hfr hw hP L0 L1 L2
    refine E_il rfl L2 ?_
    refine E_al rfl L0 ?_
    refine E_call rfl (sp_places hh) (chk77 hh rfl rfl (by show 1 ≤ 8; decide)) (fun h1 r1 => ?_)
    rintro ⟨e1, f1, c1⟩
    rw [e1, f1]
    show Ends _ _ (28, lv, [.int (nJ (gn h 84 0)), .int (nJ k)], h, 0, 0) _
    refine E_icT rfl (decide_eq_true ((nJ_lt (by first | decide | with_reducible assumption | omega) (by first | decide | with_reducible assumption | omega)).mpr (by first | decide | with_reducible assumption | omega))) ?_
    refine E_il rfl L1 ?_
    exact E_rti rfl ⟨hh, hfr, _, rfl⟩
  | succ j ih =>
    intro h b k lv hj hh hfr hw hP L0 L1 L2
    refine E_il rfl L2 ?_
    refine E_al rfl L0 ?_
    refine E_call rfl (sp_places hh) (chk77 hh rfl rfl (by show 1 ≤ 8; decide)) (fun h1 r1 => ?_)
    rintro ⟨e1, f1, c1⟩
    rw [e1, f1]
    show Ends _ _ (28, lv, [.int (nJ (gn h 84 0)), .int (nJ k)], h, 0, 0) _
    refine E_icF rfl (decide_eq_false (fun q => absurd ((nJ_lt (by first | decide | with_reducible assumption | omega) (by first | decide | with_reducible assumption | omega)).mp q) (by first | decide | with_reducible assumption | omega))) ?_
    refine E_al rfl L0 ?_
    refine E_il rfl L2 ?_
    refine E_call rfl (Sp_le (by first | exact Nat.add_le_add_left (Nat.le_of_ble_eq_true rfl) _ | exact Nat.le_of_ble_eq_true rfl | omega) (sp_ringFree (d := 0) hh (RI_fr hR rfl hfr).1 (by first | decide | with_reducible assumption | omega) hw)) (chk77 hh rfl rfl (by show 0 ≤ 8; decide)) (fun h2 r2 => ?_)
    rintro ⟨hh2, fq2, x2, f2⟩
    rw [f2]
    have fr2 : fr_g TM h0 h2 := fr_trans hfr (fr_wk rfl fq2)
    have pe2 : gn h2 84 0 = gn h 84 0 := fr_gn fq2 (rg_no rfl _)
    show Ends _ _ (36, lv, [.int x2], h2, 0, 0) _
    refine E_pop rfl rfl ?_
    refine E_il rfl L1 ?_
    refine E_al rfl L0 ?_
    refine E_gr rfl hh2 (q := 90) rfl ?_
    refine E_al rfl L0 ?_
    refine E_call rfl (sp_places hh2) (chk77 hh2 rfl rfl (by show 2 ≤ 8; decide)) (fun h3 r3 => ?_)
    rintro ⟨e3, f3, c3⟩
    rw [e3, f3]
    show Ends _ _ (46, lv, [.int (nJ (gn h2 84 0)), .ref 90, .int b], h2, 0, 0) _
    refine E_ci 1 rfl ci1 ?_
    refine E_bin rfl (nJ_add _ _) ?_
    refine E_ial rfl hh2 rfl (by first | decide | with_reducible assumption | omega) (by decide) (show gi h2 90 (((gn h2 84 0) + 1)) = (gi h2 90 (((gn h2 84 0) + 1))) from rfl) ?_
    refine E_c rfl ?_
    by_cases hb4 : ¬ (gi h2 90 (((gn h2 84 0) + 1))) = -1
    · refine E_icT rfl (decide_eq_true hb4) ?_
      refine E_ci 0 rfl ci0 ?_
      refine E_bin rfl rfl ?_
      refine E_is rfl (fun lv5 L5_1 kp5 => ?_)
      have L5_0 := kp5 0 _ (nbz rfl) rfl L0
      have L5_2 := kp5 2 _ (nbz rfl) rfl L2
      refine E_inc rfl L5_2 (nJ_inc _) (fun lv6 L6_2 kp6 => ?_)
      have L6_0 := kp6 0 _ (nbz rfl) rfl L5_0
      have L6_1 := kp6 1 _ (nbz rfl) rfl L5_1
      refine E_goto rfl ?_
      exact ih lv6 (by first | decide | with_reducible assumption | omega) hh2 fr2 (fun c hc => by rw [fr_gn fq2 (rg_no rfl _)] at hc ⊢; exact hw c hc) (by rw [pe2]; exact hP) L6_0 L6_1 L6_2
    · refine E_icF rfl (decide_eq_false hb4) ?_
      refine E_ci 1 rfl ci1 ?_
      refine E_il rfl L2 ?_
      refine E_bin rfl rfl ?_
      refine E_goto rfl ?_
      refine E_bin rfl rfl ?_
      refine E_is rfl (fun lv7 L7_1 kp7 => ?_)
      have L7_0 := kp7 0 _ (nbz rfl) rfl L0
      have L7_2 := kp7 2 _ (nbz rfl) rfl L2
      refine E_inc rfl L7_2 (nJ_inc _) (fun lv8 L8_2 kp8 => ?_)
      have L8_0 := kp8 0 _ (nbz rfl) rfl L7_0
      have L8_1 := kp8 1 _ (nbz rfl) rfl L7_1
      refine E_goto rfl ?_
      exact ih lv8 (by first | decide | with_reducible assumption | omega) hh2 fr2 (fun c hc => by rw [fr_gn fq2 (rg_no rfl _)] at hc ⊢; exact hw c hc) (by rw [pe2]; exact hP) L8_0 L8_1 L8_2
theorem tp_shifts {h0 : pm_H} {d : Nat} (hh0 : HH h0) (hR : RI 0 h0) : Sp (d + 30) 347 h0 [.ref 77] (TQ h0) := by
  refine Sp_of aiX9_shifts rfl rfl rfl ?_
  have L0 : pm_get (lv_args 0 [.ref 77]) 0 = some (.ref 77) := rfl
  generalize lv_args 0 [.ref 77] = lv at L0 ⊢
  refine E_al rfl L0 ?_
  refine E_ci 0 rfl ci0 ?_
  refine E_pf rfl hh0 rfl ?_
  have hh1 : HH (pt h0 77 0 (nJ 0)) := HH_ptn hh0 rfl (by first | decide | with_reducible assumption | omega) (by first | decide | with_reducible assumption | omega) (by first | decide | with_reducible assumption | omega)
  have fr1 : fr_g TM h0 (pt h0 77 0 (nJ 0)) := fr_ptr (l := 0) (u := 0) rfl (by first | decide | with_reducible assumption | omega) (by first | decide | with_reducible assumption | omega) (fr_rf TM h0)
  refine E_al rfl L0 ?_
  refine E_call rfl (sp_isStreet hh1) (chk77 hh1 rfl rfl (by show 0 ≤ 8; decide)) (fun h2 r2 => ?_)
  rintro ⟨e2, f2⟩
  rw [e2, f2]
  show Ends _ _ (9, lv, [.int (zb (0 < (gi (pt h0 77 0 (nJ 0)) 83 0).toInt))], (pt h0 77 0 (nJ 0)), 0, 0) _
  by_cases hb3 : 0 < (gi (pt h0 77 0 (nJ 0)) 83 0).toInt
  · refine E_ifT rfl (by rw [zb_T hb3]; rfl) ?_
    refine E_al rfl L0 ?_
    refine E_call rfl (Sp_le (by first | exact Nat.add_le_add_left (Nat.le_of_ble_eq_true rfl) _ | exact Nat.le_of_ble_eq_true rfl | omega) (sp_lays (d := 0) hh1 (RI_fr hR rfl fr1))) (chk77 hh1 rfl rfl (by show 0 ≤ 8; decide)) (fun h4 r4 => ?_)
    rintro ⟨e4, hh4, fq4, wq4⟩
    rw [e4]
    have fr4 : fr_g TM h0 h4 := fr_trans fr1 (fr_wk rfl fq4)
    show Ends _ _ (19, lv, [], h4, 0, 0) _
    refine E_ci 0 rfl ci0 ?_
    refine E_is rfl (fun lv5 L5_1 kp5 => ?_)
    have L5_0 := kp5 0 _ (nbz rfl) rfl L0
    refine E_ci 0 rfl ci0 ?_
    refine E_is rfl (fun lv6 L6_2 kp6 => ?_)
    have L6_0 := kp6 0 _ (nbz rfl) rfl L5_0
    have L6_1 := kp6 1 _ (nbz rfl) rfl L5_1
    have hP8 : gn h4 84 0 ≤ 8 := gn_hi hh4 rfl (by decide)
    exact sf_loop hR hP8 (gn h4 84 0 + 1) (k := 0) lv6 (by first | decide | with_reducible assumption | omega) hh4 fr4 wq4 rfl L6_0 L6_1 L6_2
  · refine E_ifF rfl (by rw [zb_F hb3]; rfl) ?_
    refine E_c rfl ?_
    exact E_rti rfl ⟨hh1, fr1, _, rfl⟩
end
section
/-! by hand: the reader (written by gen_t14.py) -/
section ENDR
variable {look : Nat → Option pm_I} {call : pm_Call} {Q : pm_H → Option Value → Prop} {pc n i t : Nat} {lv : List (Nat × Value)} {st : List Value} {w : pm_H × Nat × Nat} {h : pm_H} {z : Nat × Nat}
theorem E_bal {a len j : Nat} {p : List (Int × Int)} (h1 : look pc = some (.inl (s_bald n))) (hh : HH h) (hc : hsF a = some (.inl (1, len, p))) (hj : j < len) (hj2 : len < 2147483648) (kk : Ends look call (n, lv, .int (gi h a j) :: st, h, z) Q) : Ends look call (pc, lv, .int (nJ j) :: .ref a :: st, h, z) Q := by
  obtain ⟨f, hx, hf⟩ := ar_of hh hc
  have h2 := nJ_toInt (n := j) (by first | decide | with_reducible assumption | omega)
  have h3 : pm_ix (nJ j) len = true := ai_ix (by first | decide | with_reducible assumption | omega) (by first | decide | with_reducible assumption | omega)
  have h4 : (nJ j).toNatClampNeg = j := by show (nJ j).toInt.toNat = j; omega
  refine E_st h1 ?_ kk
  simp only [s_bald, hx, h3, h4, cond_true, ← hf]
noncomputable def lf77 (k : Nat) : Bool := match hsF (77 : Nat) with
  | some (.inr (.inr (.inr (_, fs)))) => (match fs[k]? with | some (.inr (.inl ())) => true | _ => false)
  | _ => false
theorem ob77l (hh : HH h) {k : Nat} (hk : lf77 k = true) : ∃ (vs : List Value) (x : Int64), h[77]? = some (.inr (9, vs)) ∧ vs[k]? = some (.long x) ∧ ∀ y : Int64, HH (h.set 77 (.inr (9, vs.set k (.long y)))) := by
  cases hc : hsF (77 : Nat) with
  | none => cases hc
  | some c =>
    have hc' := hc
    cases hc
    obtain ⟨x, hx, hg⟩ := hf_at hh hc'
    match x, hx, hg with
    | .inr (cq, vs), hx, hg =>
      obtain ⟨rfl, hlen, hall⟩ := hg
      unfold lf77 at hk
      rw [hc'] at hk
      dsimp only at hk
      split at hk
      · rename_i hf
        have hl := (List.getElem?_eq_some_iff.mp hf).1
        have hl' : k < vs.length := Nat.lt_of_lt_of_eq hl hlen.symm
        have hv := hall k _ _ hf (List.getElem?_eq_getElem hl')
        have e0 : vs[k]? = some vs[k] := List.getElem?_eq_getElem hl'
        generalize vs[k] = v at hv e0
        cases v with
        | long y =>
          refine ⟨vs, y, hx, e0, fun y2 => hf_set hh hc' ⟨rfl, by rw [List.length_set]; exact hlen, fun q c u h3 h4 => ?_⟩⟩
          by_cases hq : k = q
          · subst hq
            rw [List.getElem?_set_self hl'] at h4
            cases h4
            rw [hf] at h3
            cases h3
            trivial
          · rw [List.getElem?_set_ne hq] at h4
            exact hall q c u h3 h4
        | _ => exact hv.elim
      · cases hk
theorem E_gfl {k : Nat} (h1 : look pc = some (.inl (s_getf 9 k n))) (hh : HH h) (hk : lf77 k = true) (kk : ∀ x : Int64, Ends look call (n, lv, .long x :: st, h, z) Q) : Ends look call (pc, lv, .ref 77 :: st, h, z) Q := by
  obtain ⟨vs, x, hx, hv, -⟩ := ob77l hh hk
  refine E_st h1 ?_ (kk x)
  simp only [s_getf, hx, hv]
  rfl
theorem E_pfl {k : Nat} {y : Int64} (h1 : look pc = some (.inl (s_putf 9 k .long n))) (hh : HH h) (hk : lf77 k = true) (kk : ∀ h' : pm_H, HH h' → fr_g [(77, k, k)] h h' → Ends look call (n, lv, st, h', z) Q) : Ends look call (pc, lv, .long y :: .ref 77 :: st, h, z) Q := by
  obtain ⟨vs, x, hx, hv, hs⟩ := ob77l hh hk
  have h4 : Nat.blt k vs.length = true := Nat.ble_eq_true_of_le (List.getElem?_eq_some_iff.mp hv).1
  refine E_st h1 ?_ (kk (h.set 77 (.inr (9, vs.set k (.long y)))) (hs y) (fun b j hbj => ld_setf hx (fun hb hj => ?_)))
  · simp only [s_putf, hx, h4]
    rfl
  · subst hb; subst hj
    rw [rg_in_one (Nat.le_refl _) (Nat.le_refl _) (List.mem_singleton_self _)] at hbj
    cases hbj
end ENDR
/-- the reader: what is begun, where it stands, the tape's end -/
noncomputable def RR (h : pm_H) : Prop := HH h ∧ gn h 77 9 ≤ gn h 77 7 ∧ gn h 77 7 ≤ gn h 77 6 ∧ (gn h 77 8 = 0 ∨ gn h 77 9 < gn h 77 7)
noncomputable def FM : List Rng := [(77, 7, 11)]
noncomputable def BB : List Rng := [(77, 7, 13)]
theorem b500 {h : pm_H} (hh : HH h) : gn h 77 6 ≤ 500 := gn_hi hh rfl (by decide)
/-- a letter of a kind stands there -/
noncomputable def PB (h : pm_H) (k : Nat) (lo hi : Int32) : Prop := k < gn h 77 6 ∧ ¬ gi h 82 k < lo ∧ ¬ hi < gi h 82 k
theorem PB_eq {h h' : pm_H} {k k' : Nat} {lo hi : Int32} (h1 : gn h' 77 6 = gn h 77 6) (h2 : k' = k) (h3 : gi h' 82 k = gi h 82 k) (p : PB h k lo hi) : PB h' k' lo hi := by
  subst h2
  unfold PB at p ⊢
  rw [h1, h3]
  exact p
theorem sp_isByte {h : pm_H} {d k : Nat} {lo hi : Int32} (hh : HH h) (hk : k ≤ 500) : Sp (d + 1) 266 h [.ref 77, .int (nJ k), .int lo, .int hi] (fun h' r => h' = h ∧ (¬ PB h k lo hi ∧ r = some (.int (nJ 0)) ∨ PB h k lo hi ∧ r = some (.int (nJ 1)))) := by
  refine Sp_of aiX9_isByte rfl rfl rfl ?_
  refine E_il rfl (show pm_get (lv_args 0 [.ref 77, .int (nJ k), .int lo, .int hi]) 1 = _ from rfl) ?_
  refine E_al rfl (show pm_get (lv_args 0 [.ref 77, .int (nJ k), .int lo, .int hi]) 0 = _ from rfl) ?_
  have b1 : gn h 77 6 ≤ 500 := gn_hi hh rfl (by decide)
  refine E_gf rfl hh rfl (gi_gn hh rfl (by decide)) ?_
  by_cases hb2 : (gn h 77 6) ≤ k
  · refine E_icT rfl (decide_eq_true ((nJ_le (by first | decide | with_reducible assumption | omega) (by first | decide | with_reducible assumption | omega)).mpr hb2)) ?_
    refine E_ci 0 rfl ci0 ?_
    exact E_rtz rfl (.inl rfl) ⟨rfl, .inl ⟨fun q => by have := q.1; omega, rfl⟩⟩
  · refine E_icF rfl (decide_eq_false (fun q => hb2 ((nJ_le (by first | decide | with_reducible assumption | omega) (by first | decide | with_reducible assumption | omega)).mp q))) ?_
    refine E_al rfl (show pm_get (lv_args 0 [.ref 77, .int (nJ k), .int lo, .int hi]) 0 = _ from rfl) ?_
    refine E_gr rfl hh (q := 82) rfl ?_
    refine E_il rfl (show pm_get (lv_args 0 [.ref 77, .int (nJ k), .int lo, .int hi]) 1 = _ from rfl) ?_
    refine E_bal rfl hh rfl (by first | decide | with_reducible assumption | omega) (by decide) ?_
    refine E_il rfl (show pm_get (lv_args 0 [.ref 77, .int (nJ k), .int lo, .int hi]) 2 = _ from rfl) ?_
    by_cases hb3 : (gi h 82 k) < lo
    · refine E_icT rfl (decide_eq_true hb3) ?_
      refine E_ci 0 rfl ci0 ?_
      exact E_rtz rfl (.inl rfl) ⟨rfl, .inl ⟨fun q => q.2.1 hb3, rfl⟩⟩
    · refine E_icF rfl (decide_eq_false hb3) ?_
      have hA := hb3
      refine E_al rfl (show pm_get (lv_args 0 [.ref 77, .int (nJ k), .int lo, .int hi]) 0 = _ from rfl) ?_
      refine E_gr rfl hh (q := 82) rfl ?_
      refine E_il rfl (show pm_get (lv_args 0 [.ref 77, .int (nJ k), .int lo, .int hi]) 1 = _ from rfl) ?_
      refine E_bal rfl hh rfl (by first | decide | with_reducible assumption | omega) (by decide) ?_
      refine E_il rfl (show pm_get (lv_args 0 [.ref 77, .int (nJ k), .int lo, .int hi]) 3 = _ from rfl) ?_
      by_cases hb4 : hi < (gi h 82 k)
      · refine E_icT rfl (decide_eq_true hb4) ?_
        refine E_ci 0 rfl ci0 ?_
        exact E_rtz rfl (.inl rfl) ⟨rfl, .inl ⟨fun q => q.2.2 hb4, rfl⟩⟩
      · refine E_icF rfl (decide_eq_false hb4) ?_
        refine E_ci 1 rfl ci1 ?_
        refine E_goto rfl ?_
        exact E_rtz rfl (.inr rfl) ⟨rfl, .inr ⟨⟨by omega, hA, hb4⟩, rfl⟩⟩
theorem fo_let {h0 : pm_H} {d : Nat} (j : Nat) : ∀ {h : pm_H} {n : Int32} (lv : List (Nat × Value)), HH h → fr_g FM h0 h → gn h 77 7 + j = gn h 77 6 → gn h 77 9 ≤ gn h 77 7 → gn h0 77 7 ≤ gn h 77 9 → (gn h 77 9 < gn h 77 7 ∨ PB h (gn h 77 7) (nJ 97) (nJ 122)) → pm_get lv 0 = some (.ref 77) → pm_get lv 1 = some (.int n) → Ends (pm_at tX9_follows) (pm_Rt pm_P (d + 1)) (102, lv, [], h, 0, 0) (fun h' r => r = none ∧ RR h' ∧ fr_g FM h0 h' ∧ gn h0 77 7 ≤ gn h' 77 9) := by
  induction j with
  | zero =>
    intro h n lv hh hfr hj hb1 hb2 hb3 L0 L1
    have h5 := b500 hh
    refine E_al rfl L0 ?_
    refine E_al rfl L0 ?_
    have b1 : gn h 77 7 ≤ 500 := gn_hi hh rfl (by decide)
    refine E_gf rfl hh rfl (gi_gn hh rfl (by decide)) ?_
    refine E_ci 97 rfl ci97 ?_
    refine E_ci 122 rfl ci122 ?_
    refine E_call rfl (Sp_le (by first | exact Nat.add_le_add_left (Nat.le_of_ble_eq_true rfl) _ | exact Nat.le_of_ble_eq_true rfl | omega) (sp_isByte (d := 0) hh (by first | decide | with_reducible assumption | omega))) (chk77 hh rfl rfl (by show 0 ≤ 8; decide)) (fun h2 r2 => ?_)
    rintro ⟨e2, f2⟩
    rw [e2]
    rcases f2 with ⟨pb2, f2⟩ | ⟨pb2, f2⟩
    · rw [f2]
      have hx := hb3.resolve_right pb2
      show Ends _ _ (114, lv, [.int (nJ 0)], h, 0, 0) _
      refine E_ifT rfl (by decide) ?_
      refine E_goto rfl ?_
      exact E_ret rfl ⟨rfl, ⟨hh, by omega, by omega, by omega⟩, hfr, by omega⟩
    · rw [f2]
      have lt2 := pb2.1
      show Ends _ _ (114, lv, [.int (nJ 1)], h, 0, 0) _
      refine E_ifF rfl (by decide) ?_
      refine E_al rfl L0 ?_
      refine E_il rfl L1 ?_
      refine E_ci 11 rfl ci11 ?_
      by_cases hb3 : n ≤ (nJ 11)
      · refine E_icT rfl (decide_eq_true hb3) ?_
        refine E_c rfl ?_
        refine E_al rfl L0 ?_
        refine E_gfl rfl hh rfl (fun x4 => ?_)
        refine E_lbin rfl ?_
        refine E_al rfl L0 ?_
        refine E_gr rfl hh (q := 82) rfl ?_
        refine E_al rfl L0 ?_
        have b5 : gn h 77 7 ≤ 500 := gn_hi hh rfl (by decide)
        refine E_gf rfl hh rfl (gi_gn hh rfl (by decide)) ?_
        refine E_bal rfl hh rfl (by first | decide | with_reducible assumption | omega) (by decide) ?_
        refine E_i2l rfl ?_
        refine E_lbin rfl ?_
        refine E_c rfl ?_
        refine E_lbin rfl ?_
        refine E_pfl rfl hh rfl (fun h6 hh6 fl6 => ?_)
        have fr6 : fr_g FM h0 h6 := fr_trans hfr (fr_wk rfl fl6)
        have t6_0 : gn h6 77 6 = gn h 77 6 := fr_gn fl6 rfl
        have t6_1 : gn h6 77 7 = gn h 77 7 := fr_gn fl6 rfl
        have t6_2 : gn h6 77 8 = gn h 77 8 := fr_gn fl6 rfl
        have t6_3 : gn h6 77 9 = gn h 77 9 := fr_gn fl6 rfl
        have t6_4 : gn h6 77 12 = gn h 77 12 := fr_gn fl6 rfl
        refine E_il rfl L1 ?_
        refine E_ci 11 rfl ci11 ?_
        by_cases hb7 : n ≤ (nJ 11)
        · refine E_icT rfl (decide_eq_true hb7) ?_
          refine E_al rfl L0 ?_
          refine E_dup rfl rfl ?_
          have b8 : gn h6 77 7 ≤ 500 := gn_hi hh6 rfl (by decide)
          refine E_gf rfl hh6 rfl (gi_gn hh6 rfl (by decide)) ?_
          refine E_ci 1 rfl ci1 ?_
          refine E_bin rfl (nJ_add _ _) ?_
          refine E_pf rfl hh6 rfl ?_
          have hh9 : HH (pt h6 77 7 (nJ (((gn h6 77 7) + 1)))) := HH_ptn hh6 rfl (by first | decide | with_reducible assumption | omega) (by first | decide | with_reducible assumption | omega) (by first | decide | with_reducible assumption | omega)
          have fr9 : fr_g FM h0 (pt h6 77 7 (nJ (((gn h6 77 7) + 1)))) := fr_ptr (l := 7) (u := 7) rfl (by first | decide | with_reducible assumption | omega) (by first | decide | with_reducible assumption | omega) fr6
          have t9_0 : gn (pt h6 77 7 (nJ (((gn h6 77 7) + 1)))) 77 6 = gn h6 77 6 := gn_ne (by first | exact gxx rfl | omega)
          have t9_1 : gn (pt h6 77 7 (nJ (((gn h6 77 7) + 1)))) 77 7 = ((gn h6 77 7) + 1) := gn_ptn hh6 rfl (by first | decide | with_reducible assumption | omega) (by first | decide | with_reducible assumption | omega) (by first | decide | with_reducible assumption | omega)
          have t9_2 : gn (pt h6 77 7 (nJ (((gn h6 77 7) + 1)))) 77 8 = gn h6 77 8 := gn_ne (by first | exact gxx rfl | omega)
          have t9_3 : gn (pt h6 77 7 (nJ (((gn h6 77 7) + 1)))) 77 9 = gn h6 77 9 := gn_ne (by first | exact gxx rfl | omega)
          have t9_4 : gn (pt h6 77 7 (nJ (((gn h6 77 7) + 1)))) 77 12 = gn h6 77 12 := gn_ne (by first | exact gxx rfl | omega)
          generalize hz9 : (pt h6 77 7 (nJ (((gn h6 77 7) + 1)))) = g9 at hh9 fr9 t9_0 t9_1 t9_2 t9_3 t9_4 ⊢
          refine E_inc rfl L1 rfl (fun lv10 L10_1 kp10 => ?_)
          have L10_0 := kp10 0 _ (nbz rfl) rfl L0
          refine E_goto rfl ?_
          exfalso; omega
        · refine E_icF rfl (decide_eq_false hb7) ?_
          refine E_al rfl L0 ?_
          refine E_c rfl ?_
          refine E_pfl rfl hh6 rfl (fun h11 hh11 fl11 => ?_)
          have fr11 : fr_g FM h0 h11 := fr_trans fr6 (fr_wk rfl fl11)
          have t11_0 : gn h11 77 6 = gn h6 77 6 := fr_gn fl11 rfl
          have t11_1 : gn h11 77 7 = gn h6 77 7 := fr_gn fl11 rfl
          have t11_2 : gn h11 77 8 = gn h6 77 8 := fr_gn fl11 rfl
          have t11_3 : gn h11 77 9 = gn h6 77 9 := fr_gn fl11 rfl
          have t11_4 : gn h11 77 12 = gn h6 77 12 := fr_gn fl11 rfl
          refine E_al rfl L0 ?_
          refine E_dup rfl rfl ?_
          have b12 : gn h11 77 7 ≤ 500 := gn_hi hh11 rfl (by decide)
          refine E_gf rfl hh11 rfl (gi_gn hh11 rfl (by decide)) ?_
          refine E_ci 1 rfl ci1 ?_
          refine E_bin rfl (nJ_add _ _) ?_
          refine E_pf rfl hh11 rfl ?_
          have hh13 : HH (pt h11 77 7 (nJ (((gn h11 77 7) + 1)))) := HH_ptn hh11 rfl (by first | decide | with_reducible assumption | omega) (by first | decide | with_reducible assumption | omega) (by first | decide | with_reducible assumption | omega)
          have fr13 : fr_g FM h0 (pt h11 77 7 (nJ (((gn h11 77 7) + 1)))) := fr_ptr (l := 7) (u := 7) rfl (by first | decide | with_reducible assumption | omega) (by first | decide | with_reducible assumption | omega) fr11
          have t13_0 : gn (pt h11 77 7 (nJ (((gn h11 77 7) + 1)))) 77 6 = gn h11 77 6 := gn_ne (by first | exact gxx rfl | omega)
          have t13_1 : gn (pt h11 77 7 (nJ (((gn h11 77 7) + 1)))) 77 7 = ((gn h11 77 7) + 1) := gn_ptn hh11 rfl (by first | decide | with_reducible assumption | omega) (by first | decide | with_reducible assumption | omega) (by first | decide | with_reducible assumption | omega)
          have t13_2 : gn (pt h11 77 7 (nJ (((gn h11 77 7) + 1)))) 77 8 = gn h11 77 8 := gn_ne (by first | exact gxx rfl | omega)
          have t13_3 : gn (pt h11 77 7 (nJ (((gn h11 77 7) + 1)))) 77 9 = gn h11 77 9 := gn_ne (by first | exact gxx rfl | omega)
          have t13_4 : gn (pt h11 77 7 (nJ (((gn h11 77 7) + 1)))) 77 12 = gn h11 77 12 := gn_ne (by first | exact gxx rfl | omega)
          generalize hz13 : (pt h11 77 7 (nJ (((gn h11 77 7) + 1)))) = g13 at hh13 fr13 t13_0 t13_1 t13_2 t13_3 t13_4 ⊢
          refine E_inc rfl L1 rfl (fun lv14 L14_1 kp14 => ?_)
          have L14_0 := kp14 0 _ (nbz rfl) rfl L0
          refine E_goto rfl ?_
          exfalso; omega
      · refine E_icF rfl (decide_eq_false hb3) ?_
        refine E_c rfl ?_
        refine E_goto rfl ?_
        refine E_pfl rfl hh rfl (fun h15 hh15 fl15 => ?_)
        have fr15 : fr_g FM h0 h15 := fr_trans hfr (fr_wk rfl fl15)
        have t15_0 : gn h15 77 6 = gn h 77 6 := fr_gn fl15 rfl
        have t15_1 : gn h15 77 7 = gn h 77 7 := fr_gn fl15 rfl
        have t15_2 : gn h15 77 8 = gn h 77 8 := fr_gn fl15 rfl
        have t15_3 : gn h15 77 9 = gn h 77 9 := fr_gn fl15 rfl
        have t15_4 : gn h15 77 12 = gn h 77 12 := fr_gn fl15 rfl
        refine E_il rfl L1 ?_
        refine E_ci 11 rfl ci11 ?_
        by_cases hb16 : n ≤ (nJ 11)
        · refine E_icT rfl (decide_eq_true hb16) ?_
          refine E_al rfl L0 ?_
          refine E_dup rfl rfl ?_
          have b17 : gn h15 77 7 ≤ 500 := gn_hi hh15 rfl (by decide)
          refine E_gf rfl hh15 rfl (gi_gn hh15 rfl (by decide)) ?_
          refine E_ci 1 rfl ci1 ?_
          refine E_bin rfl (nJ_add _ _) ?_
          refine E_pf rfl hh15 rfl ?_
          have hh18 : HH (pt h15 77 7 (nJ (((gn h15 77 7) + 1)))) := HH_ptn hh15 rfl (by first | decide | with_reducible assumption | omega) (by first | decide | with_reducible assumption | omega) (by first | decide | with_reducible assumption | omega)
          have fr18 : fr_g FM h0 (pt h15 77 7 (nJ (((gn h15 77 7) + 1)))) := fr_ptr (l := 7) (u := 7) rfl (by first | decide | with_reducible assumption | omega) (by first | decide | with_reducible assumption | omega) fr15
          have t18_0 : gn (pt h15 77 7 (nJ (((gn h15 77 7) + 1)))) 77 6 = gn h15 77 6 := gn_ne (by first | exact gxx rfl | omega)
          have t18_1 : gn (pt h15 77 7 (nJ (((gn h15 77 7) + 1)))) 77 7 = ((gn h15 77 7) + 1) := gn_ptn hh15 rfl (by first | decide | with_reducible assumption | omega) (by first | decide | with_reducible assumption | omega) (by first | decide | with_reducible assumption | omega)
          have t18_2 : gn (pt h15 77 7 (nJ (((gn h15 77 7) + 1)))) 77 8 = gn h15 77 8 := gn_ne (by first | exact gxx rfl | omega)
          have t18_3 : gn (pt h15 77 7 (nJ (((gn h15 77 7) + 1)))) 77 9 = gn h15 77 9 := gn_ne (by first | exact gxx rfl | omega)
          have t18_4 : gn (pt h15 77 7 (nJ (((gn h15 77 7) + 1)))) 77 12 = gn h15 77 12 := gn_ne (by first | exact gxx rfl | omega)
          generalize hz18 : (pt h15 77 7 (nJ (((gn h15 77 7) + 1)))) = g18 at hh18 fr18 t18_0 t18_1 t18_2 t18_3 t18_4 ⊢
          refine E_inc rfl L1 rfl (fun lv19 L19_1 kp19 => ?_)
          have L19_0 := kp19 0 _ (nbz rfl) rfl L0
          refine E_goto rfl ?_
          exfalso; omega
        · refine E_icF rfl (decide_eq_false hb16) ?_
          refine E_al rfl L0 ?_
          refine E_c rfl ?_
          refine E_pfl rfl hh15 rfl (fun h20 hh20 fl20 => ?_)
          have fr20 : fr_g FM h0 h20 := fr_trans fr15 (fr_wk rfl fl20)
          have t20_0 : gn h20 77 6 = gn h15 77 6 := fr_gn fl20 rfl
          have t20_1 : gn h20 77 7 = gn h15 77 7 := fr_gn fl20 rfl
          have t20_2 : gn h20 77 8 = gn h15 77 8 := fr_gn fl20 rfl
          have t20_3 : gn h20 77 9 = gn h15 77 9 := fr_gn fl20 rfl
          have t20_4 : gn h20 77 12 = gn h15 77 12 := fr_gn fl20 rfl
          refine E_al rfl L0 ?_
          refine E_dup rfl rfl ?_
          have b21 : gn h20 77 7 ≤ 500 := gn_hi hh20 rfl (by decide)
          refine E_gf rfl hh20 rfl (gi_gn hh20 rfl (by decide)) ?_
          refine E_ci 1 rfl ci1 ?_
          refine E_bin rfl (nJ_add _ _) ?_
          refine E_pf rfl hh20 rfl ?_
          have hh22 : HH (pt h20 77 7 (nJ (((gn h20 77 7) + 1)))) := HH_ptn hh20 rfl (by first | decide | with_reducible assumption | omega) (by first | decide | with_reducible assumption | omega) (by first | decide | with_reducible assumption | omega)
          have fr22 : fr_g FM h0 (pt h20 77 7 (nJ (((gn h20 77 7) + 1)))) := fr_ptr (l := 7) (u := 7) rfl (by first | decide | with_reducible assumption | omega) (by first | decide | with_reducible assumption | omega) fr20
          have t22_0 : gn (pt h20 77 7 (nJ (((gn h20 77 7) + 1)))) 77 6 = gn h20 77 6 := gn_ne (by first | exact gxx rfl | omega)
          have t22_1 : gn (pt h20 77 7 (nJ (((gn h20 77 7) + 1)))) 77 7 = ((gn h20 77 7) + 1) := gn_ptn hh20 rfl (by first | decide | with_reducible assumption | omega) (by first | decide | with_reducible assumption | omega) (by first | decide | with_reducible assumption | omega)
          have t22_2 : gn (pt h20 77 7 (nJ (((gn h20 77 7) + 1)))) 77 8 = gn h20 77 8 := gn_ne (by first | exact gxx rfl | omega)
          have t22_3 : gn (pt h20 77 7 (nJ (((gn h20 77 7) + 1)))) 77 9 = gn h20 77 9 := gn_ne (by first | exact gxx rfl | omega)
          have t22_4 : gn (pt h20 77 7 (nJ (((gn h20 77 7) + 1)))) 77 12 = gn h20 77 12 := gn_ne (by first | exact gxx rfl | omega)
          generalize hz22 : (pt h20 77 7 (nJ (((gn h20 77 7) + 1)))) = g22 at hh22 fr22 t22_0 t22_1 t22_2 t22_3 t22_4 ⊢
          refine E_inc rfl L1 rfl (fun lv23 L23_1 kp23 => ?_)
          have L23_0 := kp23 0 _ (nbz rfl) rfl L0
          refine E_goto rfl ?_
          exfalso; omega
  | succ j ih =>
    intro h n lv hh hfr hj hb1 hb2 hb3 L0 L1
    have h5 := b500 hh
    refine E_al rfl L0 ?_
    refine E_al rfl L0 ?_
    have b1 : gn h 77 7 ≤ 500 := gn_hi hh rfl (by decide)
    refine E_gf rfl hh rfl (gi_gn hh rfl (by decide)) ?_
    refine E_ci 97 rfl ci97 ?_
    refine E_ci 122 rfl ci122 ?_
    refine E_call rfl (Sp_le (by first | exact Nat.add_le_add_left (Nat.le_of_ble_eq_true rfl) _ | exact Nat.le_of_ble_eq_true rfl | omega) (sp_isByte (d := 0) hh (by first | decide | with_reducible assumption | omega))) (chk77 hh rfl rfl (by show 0 ≤ 8; decide)) (fun h2 r2 => ?_)
    rintro ⟨e2, f2⟩
    rw [e2]
    rcases f2 with ⟨pb2, f2⟩ | ⟨pb2, f2⟩
    · rw [f2]
      have hx := hb3.resolve_right pb2
      show Ends _ _ (114, lv, [.int (nJ 0)], h, 0, 0) _
      refine E_ifT rfl (by decide) ?_
      refine E_goto rfl ?_
      exact E_ret rfl ⟨rfl, ⟨hh, by omega, by omega, by omega⟩, hfr, by omega⟩
    · rw [f2]
      have lt2 := pb2.1
      show Ends _ _ (114, lv, [.int (nJ 1)], h, 0, 0) _
      refine E_ifF rfl (by decide) ?_
      refine E_al rfl L0 ?_
      refine E_il rfl L1 ?_
      refine E_ci 11 rfl ci11 ?_
      by_cases hb3 : n ≤ (nJ 11)
      · refine E_icT rfl (decide_eq_true hb3) ?_
        refine E_c rfl ?_
        refine E_al rfl L0 ?_
        refine E_gfl rfl hh rfl (fun x4 => ?_)
        refine E_lbin rfl ?_
        refine E_al rfl L0 ?_
        refine E_gr rfl hh (q := 82) rfl ?_
        refine E_al rfl L0 ?_
        have b5 : gn h 77 7 ≤ 500 := gn_hi hh rfl (by decide)
        refine E_gf rfl hh rfl (gi_gn hh rfl (by decide)) ?_
        refine E_bal rfl hh rfl (by first | decide | with_reducible assumption | omega) (by decide) ?_
        refine E_i2l rfl ?_
        refine E_lbin rfl ?_
        refine E_c rfl ?_
        refine E_lbin rfl ?_
        refine E_pfl rfl hh rfl (fun h6 hh6 fl6 => ?_)
        have fr6 : fr_g FM h0 h6 := fr_trans hfr (fr_wk rfl fl6)
        have t6_0 : gn h6 77 6 = gn h 77 6 := fr_gn fl6 rfl
        have t6_1 : gn h6 77 7 = gn h 77 7 := fr_gn fl6 rfl
        have t6_2 : gn h6 77 8 = gn h 77 8 := fr_gn fl6 rfl
        have t6_3 : gn h6 77 9 = gn h 77 9 := fr_gn fl6 rfl
        have t6_4 : gn h6 77 12 = gn h 77 12 := fr_gn fl6 rfl
        refine E_il rfl L1 ?_
        refine E_ci 11 rfl ci11 ?_
        by_cases hb7 : n ≤ (nJ 11)
        · refine E_icT rfl (decide_eq_true hb7) ?_
          refine E_al rfl L0 ?_
          refine E_dup rfl rfl ?_
          have b8 : gn h6 77 7 ≤ 500 := gn_hi hh6 rfl (by decide)
          refine E_gf rfl hh6 rfl (gi_gn hh6 rfl (by decide)) ?_
          refine E_ci 1 rfl ci1 ?_
          refine E_bin rfl (nJ_add _ _) ?_
          refine E_pf rfl hh6 rfl ?_
          have hh9 : HH (pt h6 77 7 (nJ (((gn h6 77 7) + 1)))) := HH_ptn hh6 rfl (by first | decide | with_reducible assumption | omega) (by first | decide | with_reducible assumption | omega) (by first | decide | with_reducible assumption | omega)
          have fr9 : fr_g FM h0 (pt h6 77 7 (nJ (((gn h6 77 7) + 1)))) := fr_ptr (l := 7) (u := 7) rfl (by first | decide | with_reducible assumption | omega) (by first | decide | with_reducible assumption | omega) fr6
          have t9_0 : gn (pt h6 77 7 (nJ (((gn h6 77 7) + 1)))) 77 6 = gn h6 77 6 := gn_ne (by first | exact gxx rfl | omega)
          have t9_1 : gn (pt h6 77 7 (nJ (((gn h6 77 7) + 1)))) 77 7 = ((gn h6 77 7) + 1) := gn_ptn hh6 rfl (by first | decide | with_reducible assumption | omega) (by first | decide | with_reducible assumption | omega) (by first | decide | with_reducible assumption | omega)
          have t9_2 : gn (pt h6 77 7 (nJ (((gn h6 77 7) + 1)))) 77 8 = gn h6 77 8 := gn_ne (by first | exact gxx rfl | omega)
          have t9_3 : gn (pt h6 77 7 (nJ (((gn h6 77 7) + 1)))) 77 9 = gn h6 77 9 := gn_ne (by first | exact gxx rfl | omega)
          have t9_4 : gn (pt h6 77 7 (nJ (((gn h6 77 7) + 1)))) 77 12 = gn h6 77 12 := gn_ne (by first | exact gxx rfl | omega)
          generalize hz9 : (pt h6 77 7 (nJ (((gn h6 77 7) + 1)))) = g9 at hh9 fr9 t9_0 t9_1 t9_2 t9_3 t9_4 ⊢
          refine E_inc rfl L1 rfl (fun lv10 L10_1 kp10 => ?_)
          have L10_0 := kp10 0 _ (nbz rfl) rfl L0
          refine E_goto rfl ?_
          exact ih lv10 hh9 fr9 (by first | decide | with_reducible assumption | omega) (by first | decide | with_reducible assumption | omega) (by first | decide | with_reducible assumption | omega) (.inl (by first | decide | with_reducible assumption | omega)) L10_0 L10_1
        · refine E_icF rfl (decide_eq_false hb7) ?_
          refine E_al rfl L0 ?_
          refine E_c rfl ?_
          refine E_pfl rfl hh6 rfl (fun h11 hh11 fl11 => ?_)
          have fr11 : fr_g FM h0 h11 := fr_trans fr6 (fr_wk rfl fl11)
          have t11_0 : gn h11 77 6 = gn h6 77 6 := fr_gn fl11 rfl
          have t11_1 : gn h11 77 7 = gn h6 77 7 := fr_gn fl11 rfl
          have t11_2 : gn h11 77 8 = gn h6 77 8 := fr_gn fl11 rfl
          have t11_3 : gn h11 77 9 = gn h6 77 9 := fr_gn fl11 rfl
          have t11_4 : gn h11 77 12 = gn h6 77 12 := fr_gn fl11 rfl
          refine E_al rfl L0 ?_
          refine E_dup rfl rfl ?_
          have b12 : gn h11 77 7 ≤ 500 := gn_hi hh11 rfl (by decide)
          refine E_gf rfl hh11 rfl (gi_gn hh11 rfl (by decide)) ?_
          refine E_ci 1 rfl ci1 ?_
          refine E_bin rfl (nJ_add _ _) ?_
          refine E_pf rfl hh11 rfl ?_
          have hh13 : HH (pt h11 77 7 (nJ (((gn h11 77 7) + 1)))) := HH_ptn hh11 rfl (by first | decide | with_reducible assumption | omega) (by first | decide | with_reducible assumption | omega) (by first | decide | with_reducible assumption | omega)
          have fr13 : fr_g FM h0 (pt h11 77 7 (nJ (((gn h11 77 7) + 1)))) := fr_ptr (l := 7) (u := 7) rfl (by first | decide | with_reducible assumption | omega) (by first | decide | with_reducible assumption | omega) fr11
          have t13_0 : gn (pt h11 77 7 (nJ (((gn h11 77 7) + 1)))) 77 6 = gn h11 77 6 := gn_ne (by first | exact gxx rfl | omega)
          have t13_1 : gn (pt h11 77 7 (nJ (((gn h11 77 7) + 1)))) 77 7 = ((gn h11 77 7) + 1) := gn_ptn hh11 rfl (by first | decide | with_reducible assumption | omega) (by first | decide | with_reducible assumption | omega) (by first | decide | with_reducible assumption | omega)
          have t13_2 : gn (pt h11 77 7 (nJ (((gn h11 77 7) + 1)))) 77 8 = gn h11 77 8 := gn_ne (by first | exact gxx rfl | omega)
          have t13_3 : gn (pt h11 77 7 (nJ (((gn h11 77 7) + 1)))) 77 9 = gn h11 77 9 := gn_ne (by first | exact gxx rfl | omega)
          have t13_4 : gn (pt h11 77 7 (nJ (((gn h11 77 7) + 1)))) 77 12 = gn h11 77 12 := gn_ne (by first | exact gxx rfl | omega)
          generalize hz13 : (pt h11 77 7 (nJ (((gn h11 77 7) + 1)))) = g13 at hh13 fr13 t13_0 t13_1 t13_2 t13_3 t13_4 ⊢
          refine E_inc rfl L1 rfl (fun lv14 L14_1 kp14 => ?_)
          have L14_0 := kp14 0 _ (nbz rfl) rfl L0
          refine E_goto rfl ?_
          exact ih lv14 hh13 fr13 (by first | decide | with_reducible assumption | omega) (by first | decide | with_reducible assumption | omega) (by first | decide | with_reducible assumption | omega) (.inl (by first | decide | with_reducible assumption | omega)) L14_0 L14_1
      · refine E_icF rfl (decide_eq_false hb3) ?_
        refine E_c rfl ?_
        refine E_goto rfl ?_
        refine E_pfl rfl hh rfl (fun h15 hh15 fl15 => ?_)
        have fr15 : fr_g FM h0 h15 := fr_trans hfr (fr_wk rfl fl15)
        have t15_0 : gn h15 77 6 = gn h 77 6 := fr_gn fl15 rfl
        have t15_1 : gn h15 77 7 = gn h 77 7 := fr_gn fl15 rfl
        have t15_2 : gn h15 77 8 = gn h 77 8 := fr_gn fl15 rfl
        have t15_3 : gn h15 77 9 = gn h 77 9 := fr_gn fl15 rfl
        have t15_4 : gn h15 77 12 = gn h 77 12 := fr_gn fl15 rfl
        refine E_il rfl L1 ?_
        refine E_ci 11 rfl ci11 ?_
        by_cases hb16 : n ≤ (nJ 11)
        · refine E_icT rfl (decide_eq_true hb16) ?_
          refine E_al rfl L0 ?_
          refine E_dup rfl rfl ?_
          have b17 : gn h15 77 7 ≤ 500 := gn_hi hh15 rfl (by decide)
          refine E_gf rfl hh15 rfl (gi_gn hh15 rfl (by decide)) ?_
          refine E_ci 1 rfl ci1 ?_
          refine E_bin rfl (nJ_add _ _) ?_
          refine E_pf rfl hh15 rfl ?_
          have hh18 : HH (pt h15 77 7 (nJ (((gn h15 77 7) + 1)))) := HH_ptn hh15 rfl (by first | decide | with_reducible assumption | omega) (by first | decide | with_reducible assumption | omega) (by first | decide | with_reducible assumption | omega)
          have fr18 : fr_g FM h0 (pt h15 77 7 (nJ (((gn h15 77 7) + 1)))) := fr_ptr (l := 7) (u := 7) rfl (by first | decide | with_reducible assumption | omega) (by first | decide | with_reducible assumption | omega) fr15
          have t18_0 : gn (pt h15 77 7 (nJ (((gn h15 77 7) + 1)))) 77 6 = gn h15 77 6 := gn_ne (by first | exact gxx rfl | omega)
          have t18_1 : gn (pt h15 77 7 (nJ (((gn h15 77 7) + 1)))) 77 7 = ((gn h15 77 7) + 1) := gn_ptn hh15 rfl (by first | decide | with_reducible assumption | omega) (by first | decide | with_reducible assumption | omega) (by first | decide | with_reducible assumption | omega)
          have t18_2 : gn (pt h15 77 7 (nJ (((gn h15 77 7) + 1)))) 77 8 = gn h15 77 8 := gn_ne (by first | exact gxx rfl | omega)
          have t18_3 : gn (pt h15 77 7 (nJ (((gn h15 77 7) + 1)))) 77 9 = gn h15 77 9 := gn_ne (by first | exact gxx rfl | omega)
          have t18_4 : gn (pt h15 77 7 (nJ (((gn h15 77 7) + 1)))) 77 12 = gn h15 77 12 := gn_ne (by first | exact gxx rfl | omega)
          generalize hz18 : (pt h15 77 7 (nJ (((gn h15 77 7) + 1)))) = g18 at hh18 fr18 t18_0 t18_1 t18_2 t18_3 t18_4 ⊢
          refine E_inc rfl L1 rfl (fun lv19 L19_1 kp19 => ?_)
          have L19_0 := kp19 0 _ (nbz rfl) rfl L0
          refine E_goto rfl ?_
          exact ih lv19 hh18 fr18 (by first | decide | with_reducible assumption | omega) (by first | decide | with_reducible assumption | omega) (by first | decide | with_reducible assumption | omega) (.inl (by first | decide | with_reducible assumption | omega)) L19_0 L19_1
        · refine E_icF rfl (decide_eq_false hb16) ?_
          refine E_al rfl L0 ?_
          refine E_c rfl ?_
          refine E_pfl rfl hh15 rfl (fun h20 hh20 fl20 => ?_)
          have fr20 : fr_g FM h0 h20 := fr_trans fr15 (fr_wk rfl fl20)
          have t20_0 : gn h20 77 6 = gn h15 77 6 := fr_gn fl20 rfl
          have t20_1 : gn h20 77 7 = gn h15 77 7 := fr_gn fl20 rfl
          have t20_2 : gn h20 77 8 = gn h15 77 8 := fr_gn fl20 rfl
          have t20_3 : gn h20 77 9 = gn h15 77 9 := fr_gn fl20 rfl
          have t20_4 : gn h20 77 12 = gn h15 77 12 := fr_gn fl20 rfl
          refine E_al rfl L0 ?_
          refine E_dup rfl rfl ?_
          have b21 : gn h20 77 7 ≤ 500 := gn_hi hh20 rfl (by decide)
          refine E_gf rfl hh20 rfl (gi_gn hh20 rfl (by decide)) ?_
          refine E_ci 1 rfl ci1 ?_
          refine E_bin rfl (nJ_add _ _) ?_
          refine E_pf rfl hh20 rfl ?_
          have hh22 : HH (pt h20 77 7 (nJ (((gn h20 77 7) + 1)))) := HH_ptn hh20 rfl (by first | decide | with_reducible assumption | omega) (by first | decide | with_reducible assumption | omega) (by first | decide | with_reducible assumption | omega)
          have fr22 : fr_g FM h0 (pt h20 77 7 (nJ (((gn h20 77 7) + 1)))) := fr_ptr (l := 7) (u := 7) rfl (by first | decide | with_reducible assumption | omega) (by first | decide | with_reducible assumption | omega) fr20
          have t22_0 : gn (pt h20 77 7 (nJ (((gn h20 77 7) + 1)))) 77 6 = gn h20 77 6 := gn_ne (by first | exact gxx rfl | omega)
          have t22_1 : gn (pt h20 77 7 (nJ (((gn h20 77 7) + 1)))) 77 7 = ((gn h20 77 7) + 1) := gn_ptn hh20 rfl (by first | decide | with_reducible assumption | omega) (by first | decide | with_reducible assumption | omega) (by first | decide | with_reducible assumption | omega)
          have t22_2 : gn (pt h20 77 7 (nJ (((gn h20 77 7) + 1)))) 77 8 = gn h20 77 8 := gn_ne (by first | exact gxx rfl | omega)
          have t22_3 : gn (pt h20 77 7 (nJ (((gn h20 77 7) + 1)))) 77 9 = gn h20 77 9 := gn_ne (by first | exact gxx rfl | omega)
          have t22_4 : gn (pt h20 77 7 (nJ (((gn h20 77 7) + 1)))) 77 12 = gn h20 77 12 := gn_ne (by first | exact gxx rfl | omega)
          generalize hz22 : (pt h20 77 7 (nJ (((gn h20 77 7) + 1)))) = g22 at hh22 fr22 t22_0 t22_1 t22_2 t22_3 t22_4 ⊢
          refine E_inc rfl L1 rfl (fun lv23 L23_1 kp23 => ?_)
          have L23_0 := kp23 0 _ (nbz rfl) rfl L0
          refine E_goto rfl ?_
          exact ih lv23 hh22 fr22 (by first | decide | with_reducible assumption | omega) (by first | decide | with_reducible assumption | omega) (by first | decide | with_reducible assumption | omega) (.inl (by first | decide | with_reducible assumption | omega)) L23_0 L23_1
theorem fo_num {h0 : pm_H} {d : Nat} (j : Nat) : ∀ {h : pm_H} (lv : List (Nat × Value)), HH h → fr_g FM h0 h → gn h 77 7 + j = gn h 77 6 → gn h 77 9 ≤ gn h 77 7 → gn h0 77 7 ≤ gn h 77 9 → (gn h 77 9 < gn h 77 7 ∨ PB h (gn h 77 7) (nJ 48) (nJ 57)) → pm_get lv 0 = some (.ref 77) → Ends (pm_at tX9_follows) (pm_Rt pm_P (d + 1)) (208, lv, [], h, 0, 0) (fun h' r => r = none ∧ RR h' ∧ fr_g FM h0 h' ∧ gn h0 77 7 ≤ gn h' 77 9) := by
  induction j with
  | zero =>
    intro h  lv hh hfr hj hb1 hb2 hb3 L0
    have h5 := b500 hh
    refine E_al rfl L0 ?_
    refine E_al rfl L0 ?_
    have b1 : gn h 77 7 ≤ 500 := gn_hi hh rfl (by decide)
    refine E_gf rfl hh rfl (gi_gn hh rfl (by decide)) ?_
    refine E_ci 48 rfl ci48 ?_
    refine E_ci 57 rfl ci57 ?_
    refine E_call rfl (Sp_le (by first | exact Nat.add_le_add_left (Nat.le_of_ble_eq_true rfl) _ | exact Nat.le_of_ble_eq_true rfl | omega) (sp_isByte (d := 0) hh (by first | decide | with_reducible assumption | omega))) (chk77 hh rfl rfl (by show 0 ≤ 8; decide)) (fun h2 r2 => ?_)
    rintro ⟨e2, f2⟩
    rw [e2]
    rcases f2 with ⟨pb2, f2⟩ | ⟨pb2, f2⟩
    · rw [f2]
      have hx := hb3.resolve_right pb2
      show Ends _ _ (220, lv, [.int (nJ 0)], h, 0, 0) _
      refine E_ifT rfl (by decide) ?_
      exact E_ret rfl ⟨rfl, ⟨hh, by omega, by omega, by omega⟩, hfr, by omega⟩
    · rw [f2]
      have lt2 := pb2.1
      show Ends _ _ (220, lv, [.int (nJ 1)], h, 0, 0) _
      refine E_ifF rfl (by decide) ?_
      refine E_al rfl L0 ?_
      refine E_al rfl L0 ?_
      refine E_gf rfl hh rfl (rfl) ?_
      refine E_ci 100000 rfl ci100000 ?_
      by_cases hb3 : (gi h 77 10) ≤ (nJ 100000)
      · refine E_icT rfl (decide_eq_true hb3) ?_
        refine E_ci 10 rfl ci10 ?_
        refine E_al rfl L0 ?_
        refine E_gf rfl hh rfl (rfl) ?_
        refine E_bin rfl rfl ?_
        refine E_al rfl L0 ?_
        refine E_gr rfl hh (q := 82) rfl ?_
        refine E_al rfl L0 ?_
        have b4 : gn h 77 7 ≤ 500 := gn_hi hh rfl (by decide)
        refine E_gf rfl hh rfl (gi_gn hh rfl (by decide)) ?_
        refine E_bal rfl hh rfl (by first | decide | with_reducible assumption | omega) (by decide) ?_
        refine E_bin rfl rfl ?_
        refine E_ci 48 rfl ci48 ?_
        refine E_bin rfl rfl ?_
        refine E_pf rfl hh rfl ?_
        have hh5 : HH (pt h 77 10 (((nJ 10 * (gi h 77 10)) + (gi h 82 ((gn h 77 7)))) - nJ 48)) := HH_pt hh rfl (ai_lo _) (ai_hi _)
        have fr5 : fr_g FM h0 (pt h 77 10 (((nJ 10 * (gi h 77 10)) + (gi h 82 ((gn h 77 7)))) - nJ 48)) := fr_ptr (l := 10) (u := 10) rfl (by first | decide | with_reducible assumption | omega) (by first | decide | with_reducible assumption | omega) hfr
        have t5_0 : gn (pt h 77 10 (((nJ 10 * (gi h 77 10)) + (gi h 82 ((gn h 77 7)))) - nJ 48)) 77 6 = gn h 77 6 := gn_ne (by first | exact gxx rfl | omega)
        have t5_1 : gn (pt h 77 10 (((nJ 10 * (gi h 77 10)) + (gi h 82 ((gn h 77 7)))) - nJ 48)) 77 7 = gn h 77 7 := gn_ne (by first | exact gxx rfl | omega)
        have t5_2 : gn (pt h 77 10 (((nJ 10 * (gi h 77 10)) + (gi h 82 ((gn h 77 7)))) - nJ 48)) 77 8 = gn h 77 8 := gn_ne (by first | exact gxx rfl | omega)
        have t5_3 : gn (pt h 77 10 (((nJ 10 * (gi h 77 10)) + (gi h 82 ((gn h 77 7)))) - nJ 48)) 77 9 = gn h 77 9 := gn_ne (by first | exact gxx rfl | omega)
        have t5_4 : gn (pt h 77 10 (((nJ 10 * (gi h 77 10)) + (gi h 82 ((gn h 77 7)))) - nJ 48)) 77 12 = gn h 77 12 := gn_ne (by first | exact gxx rfl | omega)
        generalize hz5 : (pt h 77 10 (((nJ 10 * (gi h 77 10)) + (gi h 82 ((gn h 77 7)))) - nJ 48)) = g5 at hh5 fr5 t5_0 t5_1 t5_2 t5_3 t5_4 ⊢
        refine E_al rfl L0 ?_
        refine E_dup rfl rfl ?_
        have b6 : gn g5 77 7 ≤ 500 := gn_hi hh5 rfl (by decide)
        refine E_gf rfl hh5 rfl (gi_gn hh5 rfl (by decide)) ?_
        refine E_ci 1 rfl ci1 ?_
        refine E_bin rfl (nJ_add _ _) ?_
        refine E_pf rfl hh5 rfl ?_
        have hh7 : HH (pt g5 77 7 (nJ (((gn g5 77 7) + 1)))) := HH_ptn hh5 rfl (by first | decide | with_reducible assumption | omega) (by first | decide | with_reducible assumption | omega) (by first | decide | with_reducible assumption | omega)
        have fr7 : fr_g FM h0 (pt g5 77 7 (nJ (((gn g5 77 7) + 1)))) := fr_ptr (l := 7) (u := 7) rfl (by first | decide | with_reducible assumption | omega) (by first | decide | with_reducible assumption | omega) fr5
        have t7_0 : gn (pt g5 77 7 (nJ (((gn g5 77 7) + 1)))) 77 6 = gn g5 77 6 := gn_ne (by first | exact gxx rfl | omega)
        have t7_1 : gn (pt g5 77 7 (nJ (((gn g5 77 7) + 1)))) 77 7 = ((gn g5 77 7) + 1) := gn_ptn hh5 rfl (by first | decide | with_reducible assumption | omega) (by first | decide | with_reducible assumption | omega) (by first | decide | with_reducible assumption | omega)
        have t7_2 : gn (pt g5 77 7 (nJ (((gn g5 77 7) + 1)))) 77 8 = gn g5 77 8 := gn_ne (by first | exact gxx rfl | omega)
        have t7_3 : gn (pt g5 77 7 (nJ (((gn g5 77 7) + 1)))) 77 9 = gn g5 77 9 := gn_ne (by first | exact gxx rfl | omega)
        have t7_4 : gn (pt g5 77 7 (nJ (((gn g5 77 7) + 1)))) 77 12 = gn g5 77 12 := gn_ne (by first | exact gxx rfl | omega)
        generalize hz7 : (pt g5 77 7 (nJ (((gn g5 77 7) + 1)))) = g7 at hh7 fr7 t7_0 t7_1 t7_2 t7_3 t7_4 ⊢
        refine E_goto rfl ?_
        exfalso; omega
      · refine E_icF rfl (decide_eq_false hb3) ?_
        refine E_ci 1000000 rfl ci1000000 ?_
        refine E_goto rfl ?_
        refine E_pf rfl hh rfl ?_
        have hh8 : HH (pt h 77 10 (nJ 1000000)) := HH_ptn hh rfl (by first | decide | with_reducible assumption | omega) (by first | decide | with_reducible assumption | omega) (by first | decide | with_reducible assumption | omega)
        have fr8 : fr_g FM h0 (pt h 77 10 (nJ 1000000)) := fr_ptr (l := 10) (u := 10) rfl (by first | decide | with_reducible assumption | omega) (by first | decide | with_reducible assumption | omega) hfr
        have t8_0 : gn (pt h 77 10 (nJ 1000000)) 77 6 = gn h 77 6 := gn_ne (by first | exact gxx rfl | omega)
        have t8_1 : gn (pt h 77 10 (nJ 1000000)) 77 7 = gn h 77 7 := gn_ne (by first | exact gxx rfl | omega)
        have t8_2 : gn (pt h 77 10 (nJ 1000000)) 77 8 = gn h 77 8 := gn_ne (by first | exact gxx rfl | omega)
        have t8_3 : gn (pt h 77 10 (nJ 1000000)) 77 9 = gn h 77 9 := gn_ne (by first | exact gxx rfl | omega)
        have t8_4 : gn (pt h 77 10 (nJ 1000000)) 77 12 = gn h 77 12 := gn_ne (by first | exact gxx rfl | omega)
        generalize hz8 : (pt h 77 10 (nJ 1000000)) = g8 at hh8 fr8 t8_0 t8_1 t8_2 t8_3 t8_4 ⊢
        refine E_al rfl L0 ?_
        refine E_dup rfl rfl ?_
        have b9 : gn g8 77 7 ≤ 500 := gn_hi hh8 rfl (by decide)
        refine E_gf rfl hh8 rfl (gi_gn hh8 rfl (by decide)) ?_
        refine E_ci 1 rfl ci1 ?_
        refine E_bin rfl (nJ_add _ _) ?_
        refine E_pf rfl hh8 rfl ?_
        have hh10 : HH (pt g8 77 7 (nJ (((gn g8 77 7) + 1)))) := HH_ptn hh8 rfl (by first | decide | with_reducible assumption | omega) (by first | decide | with_reducible assumption | omega) (by first | decide | with_reducible assumption | omega)
        have fr10 : fr_g FM h0 (pt g8 77 7 (nJ (((gn g8 77 7) + 1)))) := fr_ptr (l := 7) (u := 7) rfl (by first | decide | with_reducible assumption | omega) (by first | decide | with_reducible assumption | omega) fr8
        have t10_0 : gn (pt g8 77 7 (nJ (((gn g8 77 7) + 1)))) 77 6 = gn g8 77 6 := gn_ne (by first | exact gxx rfl | omega)
        have t10_1 : gn (pt g8 77 7 (nJ (((gn g8 77 7) + 1)))) 77 7 = ((gn g8 77 7) + 1) := gn_ptn hh8 rfl (by first | decide | with_reducible assumption | omega) (by first | decide | with_reducible assumption | omega) (by first | decide | with_reducible assumption | omega)
        have t10_2 : gn (pt g8 77 7 (nJ (((gn g8 77 7) + 1)))) 77 8 = gn g8 77 8 := gn_ne (by first | exact gxx rfl | omega)
        have t10_3 : gn (pt g8 77 7 (nJ (((gn g8 77 7) + 1)))) 77 9 = gn g8 77 9 := gn_ne (by first | exact gxx rfl | omega)
        have t10_4 : gn (pt g8 77 7 (nJ (((gn g8 77 7) + 1)))) 77 12 = gn g8 77 12 := gn_ne (by first | exact gxx rfl | omega)
        generalize hz10 : (pt g8 77 7 (nJ (((gn g8 77 7) + 1)))) = g10 at hh10 fr10 t10_0 t10_1 t10_2 t10_3 t10_4 ⊢
        refine E_goto rfl ?_
        exfalso; omega
  | succ j ih =>
    intro h  lv hh hfr hj hb1 hb2 hb3 L0
    have h5 := b500 hh
    refine E_al rfl L0 ?_
    refine E_al rfl L0 ?_
    have b1 : gn h 77 7 ≤ 500 := gn_hi hh rfl (by decide)
    refine E_gf rfl hh rfl (gi_gn hh rfl (by decide)) ?_
    refine E_ci 48 rfl ci48 ?_
    refine E_ci 57 rfl ci57 ?_
    refine E_call rfl (Sp_le (by first | exact Nat.add_le_add_left (Nat.le_of_ble_eq_true rfl) _ | exact Nat.le_of_ble_eq_true rfl | omega) (sp_isByte (d := 0) hh (by first | decide | with_reducible assumption | omega))) (chk77 hh rfl rfl (by show 0 ≤ 8; decide)) (fun h2 r2 => ?_)
    rintro ⟨e2, f2⟩
    rw [e2]
    rcases f2 with ⟨pb2, f2⟩ | ⟨pb2, f2⟩
    · rw [f2]
      have hx := hb3.resolve_right pb2
      show Ends _ _ (220, lv, [.int (nJ 0)], h, 0, 0) _
      refine E_ifT rfl (by decide) ?_
      exact E_ret rfl ⟨rfl, ⟨hh, by omega, by omega, by omega⟩, hfr, by omega⟩
    · rw [f2]
      have lt2 := pb2.1
      show Ends _ _ (220, lv, [.int (nJ 1)], h, 0, 0) _
      refine E_ifF rfl (by decide) ?_
      refine E_al rfl L0 ?_
      refine E_al rfl L0 ?_
      refine E_gf rfl hh rfl (rfl) ?_
      refine E_ci 100000 rfl ci100000 ?_
      by_cases hb3 : (gi h 77 10) ≤ (nJ 100000)
      · refine E_icT rfl (decide_eq_true hb3) ?_
        refine E_ci 10 rfl ci10 ?_
        refine E_al rfl L0 ?_
        refine E_gf rfl hh rfl (rfl) ?_
        refine E_bin rfl rfl ?_
        refine E_al rfl L0 ?_
        refine E_gr rfl hh (q := 82) rfl ?_
        refine E_al rfl L0 ?_
        have b4 : gn h 77 7 ≤ 500 := gn_hi hh rfl (by decide)
        refine E_gf rfl hh rfl (gi_gn hh rfl (by decide)) ?_
        refine E_bal rfl hh rfl (by first | decide | with_reducible assumption | omega) (by decide) ?_
        refine E_bin rfl rfl ?_
        refine E_ci 48 rfl ci48 ?_
        refine E_bin rfl rfl ?_
        refine E_pf rfl hh rfl ?_
        have hh5 : HH (pt h 77 10 (((nJ 10 * (gi h 77 10)) + (gi h 82 ((gn h 77 7)))) - nJ 48)) := HH_pt hh rfl (ai_lo _) (ai_hi _)
        have fr5 : fr_g FM h0 (pt h 77 10 (((nJ 10 * (gi h 77 10)) + (gi h 82 ((gn h 77 7)))) - nJ 48)) := fr_ptr (l := 10) (u := 10) rfl (by first | decide | with_reducible assumption | omega) (by first | decide | with_reducible assumption | omega) hfr
        have t5_0 : gn (pt h 77 10 (((nJ 10 * (gi h 77 10)) + (gi h 82 ((gn h 77 7)))) - nJ 48)) 77 6 = gn h 77 6 := gn_ne (by first | exact gxx rfl | omega)
        have t5_1 : gn (pt h 77 10 (((nJ 10 * (gi h 77 10)) + (gi h 82 ((gn h 77 7)))) - nJ 48)) 77 7 = gn h 77 7 := gn_ne (by first | exact gxx rfl | omega)
        have t5_2 : gn (pt h 77 10 (((nJ 10 * (gi h 77 10)) + (gi h 82 ((gn h 77 7)))) - nJ 48)) 77 8 = gn h 77 8 := gn_ne (by first | exact gxx rfl | omega)
        have t5_3 : gn (pt h 77 10 (((nJ 10 * (gi h 77 10)) + (gi h 82 ((gn h 77 7)))) - nJ 48)) 77 9 = gn h 77 9 := gn_ne (by first | exact gxx rfl | omega)
        have t5_4 : gn (pt h 77 10 (((nJ 10 * (gi h 77 10)) + (gi h 82 ((gn h 77 7)))) - nJ 48)) 77 12 = gn h 77 12 := gn_ne (by first | exact gxx rfl | omega)
        generalize hz5 : (pt h 77 10 (((nJ 10 * (gi h 77 10)) + (gi h 82 ((gn h 77 7)))) - nJ 48)) = g5 at hh5 fr5 t5_0 t5_1 t5_2 t5_3 t5_4 ⊢
        refine E_al rfl L0 ?_
        refine E_dup rfl rfl ?_
        have b6 : gn g5 77 7 ≤ 500 := gn_hi hh5 rfl (by decide)
        refine E_gf rfl hh5 rfl (gi_gn hh5 rfl (by decide)) ?_
        refine E_ci 1 rfl ci1 ?_
        refine E_bin rfl (nJ_add _ _) ?_
        refine E_pf rfl hh5 rfl ?_
        have hh7 : HH (pt g5 77 7 (nJ (((gn g5 77 7) + 1)))) := HH_ptn hh5 rfl (by first | decide | with_reducible assumption | omega) (by first | decide | with_reducible assumption | omega) (by first | decide | with_reducible assumption | omega)
        have fr7 : fr_g FM h0 (pt g5 77 7 (nJ (((gn g5 77 7) + 1)))) := fr_ptr (l := 7) (u := 7) rfl (by first | decide | with_reducible assumption | omega) (by first | decide | with_reducible assumption | omega) fr5
        have t7_0 : gn (pt g5 77 7 (nJ (((gn g5 77 7) + 1)))) 77 6 = gn g5 77 6 := gn_ne (by first | exact gxx rfl | omega)
        have t7_1 : gn (pt g5 77 7 (nJ (((gn g5 77 7) + 1)))) 77 7 = ((gn g5 77 7) + 1) := gn_ptn hh5 rfl (by first | decide | with_reducible assumption | omega) (by first | decide | with_reducible assumption | omega) (by first | decide | with_reducible assumption | omega)
        have t7_2 : gn (pt g5 77 7 (nJ (((gn g5 77 7) + 1)))) 77 8 = gn g5 77 8 := gn_ne (by first | exact gxx rfl | omega)
        have t7_3 : gn (pt g5 77 7 (nJ (((gn g5 77 7) + 1)))) 77 9 = gn g5 77 9 := gn_ne (by first | exact gxx rfl | omega)
        have t7_4 : gn (pt g5 77 7 (nJ (((gn g5 77 7) + 1)))) 77 12 = gn g5 77 12 := gn_ne (by first | exact gxx rfl | omega)
        generalize hz7 : (pt g5 77 7 (nJ (((gn g5 77 7) + 1)))) = g7 at hh7 fr7 t7_0 t7_1 t7_2 t7_3 t7_4 ⊢
        refine E_goto rfl ?_
        exact ih lv hh7 fr7 (by first | decide | with_reducible assumption | omega) (by first | decide | with_reducible assumption | omega) (by first | decide | with_reducible assumption | omega) (.inl (by first | decide | with_reducible assumption | omega)) L0
      · refine E_icF rfl (decide_eq_false hb3) ?_
        refine E_ci 1000000 rfl ci1000000 ?_
        refine E_goto rfl ?_
        refine E_pf rfl hh rfl ?_
        have hh8 : HH (pt h 77 10 (nJ 1000000)) := HH_ptn hh rfl (by first | decide | with_reducible assumption | omega) (by first | decide | with_reducible assumption | omega) (by first | decide | with_reducible assumption | omega)
        have fr8 : fr_g FM h0 (pt h 77 10 (nJ 1000000)) := fr_ptr (l := 10) (u := 10) rfl (by first | decide | with_reducible assumption | omega) (by first | decide | with_reducible assumption | omega) hfr
        have t8_0 : gn (pt h 77 10 (nJ 1000000)) 77 6 = gn h 77 6 := gn_ne (by first | exact gxx rfl | omega)
        have t8_1 : gn (pt h 77 10 (nJ 1000000)) 77 7 = gn h 77 7 := gn_ne (by first | exact gxx rfl | omega)
        have t8_2 : gn (pt h 77 10 (nJ 1000000)) 77 8 = gn h 77 8 := gn_ne (by first | exact gxx rfl | omega)
        have t8_3 : gn (pt h 77 10 (nJ 1000000)) 77 9 = gn h 77 9 := gn_ne (by first | exact gxx rfl | omega)
        have t8_4 : gn (pt h 77 10 (nJ 1000000)) 77 12 = gn h 77 12 := gn_ne (by first | exact gxx rfl | omega)
        generalize hz8 : (pt h 77 10 (nJ 1000000)) = g8 at hh8 fr8 t8_0 t8_1 t8_2 t8_3 t8_4 ⊢
        refine E_al rfl L0 ?_
        refine E_dup rfl rfl ?_
        have b9 : gn g8 77 7 ≤ 500 := gn_hi hh8 rfl (by decide)
        refine E_gf rfl hh8 rfl (gi_gn hh8 rfl (by decide)) ?_
        refine E_ci 1 rfl ci1 ?_
        refine E_bin rfl (nJ_add _ _) ?_
        refine E_pf rfl hh8 rfl ?_
        have hh10 : HH (pt g8 77 7 (nJ (((gn g8 77 7) + 1)))) := HH_ptn hh8 rfl (by first | decide | with_reducible assumption | omega) (by first | decide | with_reducible assumption | omega) (by first | decide | with_reducible assumption | omega)
        have fr10 : fr_g FM h0 (pt g8 77 7 (nJ (((gn g8 77 7) + 1)))) := fr_ptr (l := 7) (u := 7) rfl (by first | decide | with_reducible assumption | omega) (by first | decide | with_reducible assumption | omega) fr8
        have t10_0 : gn (pt g8 77 7 (nJ (((gn g8 77 7) + 1)))) 77 6 = gn g8 77 6 := gn_ne (by first | exact gxx rfl | omega)
        have t10_1 : gn (pt g8 77 7 (nJ (((gn g8 77 7) + 1)))) 77 7 = ((gn g8 77 7) + 1) := gn_ptn hh8 rfl (by first | decide | with_reducible assumption | omega) (by first | decide | with_reducible assumption | omega) (by first | decide | with_reducible assumption | omega)
        have t10_2 : gn (pt g8 77 7 (nJ (((gn g8 77 7) + 1)))) 77 8 = gn g8 77 8 := gn_ne (by first | exact gxx rfl | omega)
        have t10_3 : gn (pt g8 77 7 (nJ (((gn g8 77 7) + 1)))) 77 9 = gn g8 77 9 := gn_ne (by first | exact gxx rfl | omega)
        have t10_4 : gn (pt g8 77 7 (nJ (((gn g8 77 7) + 1)))) 77 12 = gn g8 77 12 := gn_ne (by first | exact gxx rfl | omega)
        generalize hz10 : (pt g8 77 7 (nJ (((gn g8 77 7) + 1)))) = g10 at hh10 fr10 t10_0 t10_1 t10_2 t10_3 t10_4 ⊢
        refine E_goto rfl ?_
        exact ih lv hh10 fr10 (by first | decide | with_reducible assumption | omega) (by first | decide | with_reducible assumption | omega) (by first | decide | with_reducible assumption | omega) (.inl (by first | decide | with_reducible assumption | omega)) L0
theorem fo_tail {h0 h : pm_H} {d : Nat} (lv : List (Nat × Value)) (hh : HH h) (hfr : fr_g FM h0 h) (hb1 : gn h 77 7 ≤ gn h 77 6) (hb2 : gn h0 77 7 ≤ gn h 77 7) (L0 : pm_get lv 0 = some (.ref 77)) : Ends (pm_at tX9_follows) (pm_Rt pm_P (d + 1)) (43, lv, [], h, 0, 0) (fun h' r => r = none ∧ RR h' ∧ fr_g FM h0 h' ∧ gn h0 77 7 ≤ gn h' 77 9) := by
  have h5 := b500 hh
  refine E_al rfl L0 ?_
  refine E_al rfl L0 ?_
  have b1 : gn h 77 7 ≤ 500 := gn_hi hh rfl (by decide)
  refine E_gf rfl hh rfl (gi_gn hh rfl (by decide)) ?_
  refine E_pf rfl hh rfl ?_
  have hh2 : HH (pt h 77 9 (nJ ((gn h 77 7)))) := HH_ptn hh rfl (by first | decide | with_reducible assumption | omega) (by first | decide | with_reducible assumption | omega) (by first | decide | with_reducible assumption | omega)
  have fr2 : fr_g FM h0 (pt h 77 9 (nJ ((gn h 77 7)))) := fr_ptr (l := 9) (u := 9) rfl (by first | decide | with_reducible assumption | omega) (by first | decide | with_reducible assumption | omega) hfr
  have t2_0 : gn (pt h 77 9 (nJ ((gn h 77 7)))) 77 6 = gn h 77 6 := gn_ne (by first | exact gxx rfl | omega)
  have t2_1 : gn (pt h 77 9 (nJ ((gn h 77 7)))) 77 7 = gn h 77 7 := gn_ne (by first | exact gxx rfl | omega)
  have t2_2 : gn (pt h 77 9 (nJ ((gn h 77 7)))) 77 8 = gn h 77 8 := gn_ne (by first | exact gxx rfl | omega)
  have t2_3 : gn (pt h 77 9 (nJ ((gn h 77 7)))) 77 9 = (gn h 77 7) := gn_ptn hh rfl (by first | decide | with_reducible assumption | omega) (by first | decide | with_reducible assumption | omega) (by first | decide | with_reducible assumption | omega)
  have t2_4 : gn (pt h 77 9 (nJ ((gn h 77 7)))) 77 12 = gn h 77 12 := gn_ne (by first | exact gxx rfl | omega)
  generalize hz2 : (pt h 77 9 (nJ ((gn h 77 7)))) = g2 at hh2 fr2 t2_0 t2_1 t2_2 t2_3 t2_4 ⊢
  refine E_al rfl L0 ?_
  refine E_ci 0 rfl ci0 ?_
  refine E_pf rfl hh2 rfl ?_
  have hh3 : HH (pt g2 77 10 (nJ 0)) := HH_ptn hh2 rfl (by first | decide | with_reducible assumption | omega) (by first | decide | with_reducible assumption | omega) (by first | decide | with_reducible assumption | omega)
  have fr3 : fr_g FM h0 (pt g2 77 10 (nJ 0)) := fr_ptr (l := 10) (u := 10) rfl (by first | decide | with_reducible assumption | omega) (by first | decide | with_reducible assumption | omega) fr2
  have t3_0 : gn (pt g2 77 10 (nJ 0)) 77 6 = gn g2 77 6 := gn_ne (by first | exact gxx rfl | omega)
  have t3_1 : gn (pt g2 77 10 (nJ 0)) 77 7 = gn g2 77 7 := gn_ne (by first | exact gxx rfl | omega)
  have t3_2 : gn (pt g2 77 10 (nJ 0)) 77 8 = gn g2 77 8 := gn_ne (by first | exact gxx rfl | omega)
  have t3_3 : gn (pt g2 77 10 (nJ 0)) 77 9 = gn g2 77 9 := gn_ne (by first | exact gxx rfl | omega)
  have t3_4 : gn (pt g2 77 10 (nJ 0)) 77 12 = gn g2 77 12 := gn_ne (by first | exact gxx rfl | omega)
  generalize hz3 : (pt g2 77 10 (nJ 0)) = g3 at hh3 fr3 t3_0 t3_1 t3_2 t3_3 t3_4 ⊢
  refine E_al rfl L0 ?_
  refine E_c rfl ?_
  refine E_pfl rfl hh3 rfl (fun h4 hh4 fl4 => ?_)
  have fr4 : fr_g FM h0 h4 := fr_trans fr3 (fr_wk rfl fl4)
  have t4_0 : gn h4 77 6 = gn g3 77 6 := fr_gn fl4 rfl
  have t4_1 : gn h4 77 7 = gn g3 77 7 := fr_gn fl4 rfl
  have t4_2 : gn h4 77 8 = gn g3 77 8 := fr_gn fl4 rfl
  have t4_3 : gn h4 77 9 = gn g3 77 9 := fr_gn fl4 rfl
  have t4_4 : gn h4 77 12 = gn g3 77 12 := fr_gn fl4 rfl
  refine E_al rfl L0 ?_
  have b5 : gn h4 77 7 ≤ 500 := gn_hi hh4 rfl (by decide)
  refine E_gf rfl hh4 rfl (gi_gn hh4 rfl (by decide)) ?_
  refine E_al rfl L0 ?_
  have b6 : gn h4 77 6 ≤ 500 := gn_hi hh4 rfl (by decide)
  refine E_gf rfl hh4 rfl (gi_gn hh4 rfl (by decide)) ?_
  by_cases hb7 : ¬ (gn h4 77 7) = (gn h4 77 6)
  · refine E_icT rfl (decide_eq_true (fun q => hb7 ((nJ_eq (by first | decide | with_reducible assumption | omega) (by first | decide | with_reducible assumption | omega)).mp q))) ?_
    refine E_al rfl L0 ?_
    refine E_al rfl L0 ?_
    have b8 : gn h4 77 7 ≤ 500 := gn_hi hh4 rfl (by decide)
    refine E_gf rfl hh4 rfl (gi_gn hh4 rfl (by decide)) ?_
    refine E_ci 97 rfl ci97 ?_
    refine E_ci 122 rfl ci122 ?_
    refine E_call rfl (Sp_le (by first | exact Nat.add_le_add_left (Nat.le_of_ble_eq_true rfl) _ | exact Nat.le_of_ble_eq_true rfl | omega) (sp_isByte (d := 0) hh4 (by first | decide | with_reducible assumption | omega))) (chk77 hh4 rfl rfl (by show 0 ≤ 8; decide)) (fun h9 r9 => ?_)
    rintro ⟨e9, f9⟩
    rw [e9]
    rcases f9 with ⟨pb9, f9⟩ | ⟨pb9, f9⟩
    · rw [f9]
      show Ends _ _ (92, lv, [.int (nJ 0)], h4, 0, 0) _
      refine E_ifT rfl (by decide) ?_
      refine E_al rfl L0 ?_
      refine E_al rfl L0 ?_
      have b10 : gn h4 77 7 ≤ 500 := gn_hi hh4 rfl (by decide)
      refine E_gf rfl hh4 rfl (gi_gn hh4 rfl (by decide)) ?_
      refine E_ci 48 rfl ci48 ?_
      refine E_ci 57 rfl ci57 ?_
      refine E_call rfl (Sp_le (by first | exact Nat.add_le_add_left (Nat.le_of_ble_eq_true rfl) _ | exact Nat.le_of_ble_eq_true rfl | omega) (sp_isByte (d := 0) hh4 (by first | decide | with_reducible assumption | omega))) (chk77 hh4 rfl rfl (by show 0 ≤ 8; decide)) (fun h11 r11 => ?_)
      rintro ⟨e11, f11⟩
      rw [e11]
      rcases f11 with ⟨pb11, f11⟩ | ⟨pb11, f11⟩
      · rw [f11]
        show Ends _ _ (200, lv, [.int (nJ 0)], h4, 0, 0) _
        refine E_ifT rfl (by decide) ?_
        refine E_al rfl L0 ?_
        refine E_al rfl L0 ?_
        refine E_gr rfl hh4 (q := 82) rfl ?_
        refine E_al rfl L0 ?_
        have b12 : gn h4 77 7 ≤ 500 := gn_hi hh4 rfl (by decide)
        refine E_gf rfl hh4 rfl (gi_gn hh4 rfl (by decide)) ?_
        refine E_bal rfl hh4 rfl (by first | decide | with_reducible assumption | omega) (by decide) ?_
        refine E_ci 59 rfl ci59 ?_
        by_cases hb13 : ¬ (gi h4 82 ((gn h4 77 7))) = (nJ 59)
        · refine E_icT rfl (decide_eq_true hb13) ?_
          refine E_ci 4 rfl ci4 ?_
          refine E_pf rfl hh4 rfl ?_
          have hh14 : HH (pt h4 77 8 (nJ 4)) := HH_ptn hh4 rfl (by first | decide | with_reducible assumption | omega) (by first | decide | with_reducible assumption | omega) (by first | decide | with_reducible assumption | omega)
          have fr14 : fr_g FM h0 (pt h4 77 8 (nJ 4)) := fr_ptr (l := 8) (u := 8) rfl (by first | decide | with_reducible assumption | omega) (by first | decide | with_reducible assumption | omega) fr4
          have t14_0 : gn (pt h4 77 8 (nJ 4)) 77 6 = gn h4 77 6 := gn_ne (by first | exact gxx rfl | omega)
          have t14_1 : gn (pt h4 77 8 (nJ 4)) 77 7 = gn h4 77 7 := gn_ne (by first | exact gxx rfl | omega)
          have t14_2 : gn (pt h4 77 8 (nJ 4)) 77 8 = 4 := gn_ptn hh4 rfl (by first | decide | with_reducible assumption | omega) (by first | decide | with_reducible assumption | omega) (by first | decide | with_reducible assumption | omega)
          have t14_3 : gn (pt h4 77 8 (nJ 4)) 77 9 = gn h4 77 9 := gn_ne (by first | exact gxx rfl | omega)
          have t14_4 : gn (pt h4 77 8 (nJ 4)) 77 12 = gn h4 77 12 := gn_ne (by first | exact gxx rfl | omega)
          generalize hz14 : (pt h4 77 8 (nJ 4)) = g14 at hh14 fr14 t14_0 t14_1 t14_2 t14_3 t14_4 ⊢
          refine E_al rfl L0 ?_
          refine E_dup rfl rfl ?_
          have b15 : gn g14 77 7 ≤ 500 := gn_hi hh14 rfl (by decide)
          refine E_gf rfl hh14 rfl (gi_gn hh14 rfl (by decide)) ?_
          refine E_ci 1 rfl ci1 ?_
          refine E_bin rfl (nJ_add _ _) ?_
          refine E_pf rfl hh14 rfl ?_
          have hh16 : HH (pt g14 77 7 (nJ (((gn g14 77 7) + 1)))) := HH_ptn hh14 rfl (by first | decide | with_reducible assumption | omega) (by first | decide | with_reducible assumption | omega) (by first | decide | with_reducible assumption | omega)
          have fr16 : fr_g FM h0 (pt g14 77 7 (nJ (((gn g14 77 7) + 1)))) := fr_ptr (l := 7) (u := 7) rfl (by first | decide | with_reducible assumption | omega) (by first | decide | with_reducible assumption | omega) fr14
          have t16_0 : gn (pt g14 77 7 (nJ (((gn g14 77 7) + 1)))) 77 6 = gn g14 77 6 := gn_ne (by first | exact gxx rfl | omega)
          have t16_1 : gn (pt g14 77 7 (nJ (((gn g14 77 7) + 1)))) 77 7 = ((gn g14 77 7) + 1) := gn_ptn hh14 rfl (by first | decide | with_reducible assumption | omega) (by first | decide | with_reducible assumption | omega) (by first | decide | with_reducible assumption | omega)
          have t16_2 : gn (pt g14 77 7 (nJ (((gn g14 77 7) + 1)))) 77 8 = gn g14 77 8 := gn_ne (by first | exact gxx rfl | omega)
          have t16_3 : gn (pt g14 77 7 (nJ (((gn g14 77 7) + 1)))) 77 9 = gn g14 77 9 := gn_ne (by first | exact gxx rfl | omega)
          have t16_4 : gn (pt g14 77 7 (nJ (((gn g14 77 7) + 1)))) 77 12 = gn g14 77 12 := gn_ne (by first | exact gxx rfl | omega)
          generalize hz16 : (pt g14 77 7 (nJ (((gn g14 77 7) + 1)))) = g16 at hh16 fr16 t16_0 t16_1 t16_2 t16_3 t16_4 ⊢
          exact E_ret rfl ⟨rfl, ⟨hh16, by omega, by omega, by omega⟩, fr16, by omega⟩
        · refine E_icF rfl (decide_eq_false hb13) ?_
          refine E_ci 3 rfl ci3 ?_
          refine E_goto rfl ?_
          refine E_pf rfl hh4 rfl ?_
          have hh17 : HH (pt h4 77 8 (nJ 3)) := HH_ptn hh4 rfl (by first | decide | with_reducible assumption | omega) (by first | decide | with_reducible assumption | omega) (by first | decide | with_reducible assumption | omega)
          have fr17 : fr_g FM h0 (pt h4 77 8 (nJ 3)) := fr_ptr (l := 8) (u := 8) rfl (by first | decide | with_reducible assumption | omega) (by first | decide | with_reducible assumption | omega) fr4
          have t17_0 : gn (pt h4 77 8 (nJ 3)) 77 6 = gn h4 77 6 := gn_ne (by first | exact gxx rfl | omega)
          have t17_1 : gn (pt h4 77 8 (nJ 3)) 77 7 = gn h4 77 7 := gn_ne (by first | exact gxx rfl | omega)
          have t17_2 : gn (pt h4 77 8 (nJ 3)) 77 8 = 3 := gn_ptn hh4 rfl (by first | decide | with_reducible assumption | omega) (by first | decide | with_reducible assumption | omega) (by first | decide | with_reducible assumption | omega)
          have t17_3 : gn (pt h4 77 8 (nJ 3)) 77 9 = gn h4 77 9 := gn_ne (by first | exact gxx rfl | omega)
          have t17_4 : gn (pt h4 77 8 (nJ 3)) 77 12 = gn h4 77 12 := gn_ne (by first | exact gxx rfl | omega)
          generalize hz17 : (pt h4 77 8 (nJ 3)) = g17 at hh17 fr17 t17_0 t17_1 t17_2 t17_3 t17_4 ⊢
          refine E_al rfl L0 ?_
          refine E_dup rfl rfl ?_
          have b18 : gn g17 77 7 ≤ 500 := gn_hi hh17 rfl (by decide)
          refine E_gf rfl hh17 rfl (gi_gn hh17 rfl (by decide)) ?_
          refine E_ci 1 rfl ci1 ?_
          refine E_bin rfl (nJ_add _ _) ?_
          refine E_pf rfl hh17 rfl ?_
          have hh19 : HH (pt g17 77 7 (nJ (((gn g17 77 7) + 1)))) := HH_ptn hh17 rfl (by first | decide | with_reducible assumption | omega) (by first | decide | with_reducible assumption | omega) (by first | decide | with_reducible assumption | omega)
          have fr19 : fr_g FM h0 (pt g17 77 7 (nJ (((gn g17 77 7) + 1)))) := fr_ptr (l := 7) (u := 7) rfl (by first | decide | with_reducible assumption | omega) (by first | decide | with_reducible assumption | omega) fr17
          have t19_0 : gn (pt g17 77 7 (nJ (((gn g17 77 7) + 1)))) 77 6 = gn g17 77 6 := gn_ne (by first | exact gxx rfl | omega)
          have t19_1 : gn (pt g17 77 7 (nJ (((gn g17 77 7) + 1)))) 77 7 = ((gn g17 77 7) + 1) := gn_ptn hh17 rfl (by first | decide | with_reducible assumption | omega) (by first | decide | with_reducible assumption | omega) (by first | decide | with_reducible assumption | omega)
          have t19_2 : gn (pt g17 77 7 (nJ (((gn g17 77 7) + 1)))) 77 8 = gn g17 77 8 := gn_ne (by first | exact gxx rfl | omega)
          have t19_3 : gn (pt g17 77 7 (nJ (((gn g17 77 7) + 1)))) 77 9 = gn g17 77 9 := gn_ne (by first | exact gxx rfl | omega)
          have t19_4 : gn (pt g17 77 7 (nJ (((gn g17 77 7) + 1)))) 77 12 = gn g17 77 12 := gn_ne (by first | exact gxx rfl | omega)
          generalize hz19 : (pt g17 77 7 (nJ (((gn g17 77 7) + 1)))) = g19 at hh19 fr19 t19_0 t19_1 t19_2 t19_3 t19_4 ⊢
          exact E_ret rfl ⟨rfl, ⟨hh19, by omega, by omega, by omega⟩, fr19, by omega⟩
      · rw [f11]
        have lt11 := pb11.1
        show Ends _ _ (200, lv, [.int (nJ 1)], h4, 0, 0) _
        refine E_ifF rfl (by decide) ?_
        refine E_al rfl L0 ?_
        refine E_ci 2 rfl ci2 ?_
        refine E_pf rfl hh4 rfl ?_
        have hh20 : HH (pt h4 77 8 (nJ 2)) := HH_ptn hh4 rfl (by first | decide | with_reducible assumption | omega) (by first | decide | with_reducible assumption | omega) (by first | decide | with_reducible assumption | omega)
        have fr20 : fr_g FM h0 (pt h4 77 8 (nJ 2)) := fr_ptr (l := 8) (u := 8) rfl (by first | decide | with_reducible assumption | omega) (by first | decide | with_reducible assumption | omega) fr4
        have t20_0 : gn (pt h4 77 8 (nJ 2)) 77 6 = gn h4 77 6 := gn_ne (by first | exact gxx rfl | omega)
        have t20_1 : gn (pt h4 77 8 (nJ 2)) 77 7 = gn h4 77 7 := gn_ne (by first | exact gxx rfl | omega)
        have t20_2 : gn (pt h4 77 8 (nJ 2)) 77 8 = 2 := gn_ptn hh4 rfl (by first | decide | with_reducible assumption | omega) (by first | decide | with_reducible assumption | omega) (by first | decide | with_reducible assumption | omega)
        have t20_3 : gn (pt h4 77 8 (nJ 2)) 77 9 = gn h4 77 9 := gn_ne (by first | exact gxx rfl | omega)
        have t20_4 : gn (pt h4 77 8 (nJ 2)) 77 12 = gn h4 77 12 := gn_ne (by first | exact gxx rfl | omega)
        generalize hz20 : (pt h4 77 8 (nJ 2)) = g20 at hh20 fr20 t20_0 t20_1 t20_2 t20_3 t20_4 ⊢
        exact fo_num (gn g20 77 6 - gn g20 77 7) lv hh20 fr20 (by first | decide | with_reducible assumption | omega) (by first | decide | with_reducible assumption | omega) (by first | decide | with_reducible assumption | omega) (.inr (PB_eq (by first | decide | with_reducible assumption | omega) (by first | decide | with_reducible assumption | omega) (by rw [← hz20]; exact gi_ne (by first | exact gxx rfl | omega)) pb11)) L0
    · rw [f9]
      have lt9 := pb9.1
      show Ends _ _ (92, lv, [.int (nJ 1)], h4, 0, 0) _
      refine E_ifF rfl (by decide) ?_
      refine E_al rfl L0 ?_
      refine E_ci 1 rfl ci1 ?_
      refine E_pf rfl hh4 rfl ?_
      have hh21 : HH (pt h4 77 8 (nJ 1)) := HH_ptn hh4 rfl (by first | decide | with_reducible assumption | omega) (by first | decide | with_reducible assumption | omega) (by first | decide | with_reducible assumption | omega)
      have fr21 : fr_g FM h0 (pt h4 77 8 (nJ 1)) := fr_ptr (l := 8) (u := 8) rfl (by first | decide | with_reducible assumption | omega) (by first | decide | with_reducible assumption | omega) fr4
      have t21_0 : gn (pt h4 77 8 (nJ 1)) 77 6 = gn h4 77 6 := gn_ne (by first | exact gxx rfl | omega)
      have t21_1 : gn (pt h4 77 8 (nJ 1)) 77 7 = gn h4 77 7 := gn_ne (by first | exact gxx rfl | omega)
      have t21_2 : gn (pt h4 77 8 (nJ 1)) 77 8 = 1 := gn_ptn hh4 rfl (by first | decide | with_reducible assumption | omega) (by first | decide | with_reducible assumption | omega) (by first | decide | with_reducible assumption | omega)
      have t21_3 : gn (pt h4 77 8 (nJ 1)) 77 9 = gn h4 77 9 := gn_ne (by first | exact gxx rfl | omega)
      have t21_4 : gn (pt h4 77 8 (nJ 1)) 77 12 = gn h4 77 12 := gn_ne (by first | exact gxx rfl | omega)
      generalize hz21 : (pt h4 77 8 (nJ 1)) = g21 at hh21 fr21 t21_0 t21_1 t21_2 t21_3 t21_4 ⊢
      refine E_ci 0 rfl ci0 ?_
      refine E_is rfl (fun lv22 L22_1 kp22 => ?_)
      have L22_0 := kp22 0 _ (nbz rfl) rfl L0
      exact fo_let (gn g21 77 6 - gn g21 77 7) lv22 hh21 fr21 (by first | decide | with_reducible assumption | omega) (by first | decide | with_reducible assumption | omega) (by first | decide | with_reducible assumption | omega) (.inr (PB_eq (by first | decide | with_reducible assumption | omega) (by first | decide | with_reducible assumption | omega) (by rw [← hz21]; exact gi_ne (by first | exact gxx rfl | omega)) pb9)) L22_0 L22_1
  · refine E_icF rfl (decide_eq_false (fun q => hb7 (fun z => q ((nJ_eq (by first | decide | with_reducible assumption | omega) (by first | decide | with_reducible assumption | omega)).mpr z)))) ?_
    refine E_al rfl L0 ?_
    refine E_ci 0 rfl ci0 ?_
    refine E_pf rfl hh4 rfl ?_
    have hh23 : HH (pt h4 77 8 (nJ 0)) := HH_ptn hh4 rfl (by first | decide | with_reducible assumption | omega) (by first | decide | with_reducible assumption | omega) (by first | decide | with_reducible assumption | omega)
    have fr23 : fr_g FM h0 (pt h4 77 8 (nJ 0)) := fr_ptr (l := 8) (u := 8) rfl (by first | decide | with_reducible assumption | omega) (by first | decide | with_reducible assumption | omega) fr4
    have t23_0 : gn (pt h4 77 8 (nJ 0)) 77 6 = gn h4 77 6 := gn_ne (by first | exact gxx rfl | omega)
    have t23_1 : gn (pt h4 77 8 (nJ 0)) 77 7 = gn h4 77 7 := gn_ne (by first | exact gxx rfl | omega)
    have t23_2 : gn (pt h4 77 8 (nJ 0)) 77 8 = 0 := gn_ptn hh4 rfl (by first | decide | with_reducible assumption | omega) (by first | decide | with_reducible assumption | omega) (by first | decide | with_reducible assumption | omega)
    have t23_3 : gn (pt h4 77 8 (nJ 0)) 77 9 = gn h4 77 9 := gn_ne (by first | exact gxx rfl | omega)
    have t23_4 : gn (pt h4 77 8 (nJ 0)) 77 12 = gn h4 77 12 := gn_ne (by first | exact gxx rfl | omega)
    generalize hz23 : (pt h4 77 8 (nJ 0)) = g23 at hh23 fr23 t23_0 t23_1 t23_2 t23_3 t23_4 ⊢
    refine E_goto rfl ?_
    exact E_ret rfl ⟨rfl, ⟨hh23, by omega, by omega, by omega⟩, fr23, by omega⟩
theorem fo_loop {h0 : pm_H} {d : Nat} (j : Nat) : ∀ {h : pm_H} (lv : List (Nat × Value)), HH h → fr_g FM h0 h → gn h 77 7 + j = gn h 77 6 → gn h0 77 7 ≤ gn h 77 7 → pm_get lv 0 = some (.ref 77) → Ends (pm_at tX9_follows) (pm_Rt pm_P (d + 1)) (0, lv, [], h, 0, 0) (fun h' r => r = none ∧ RR h' ∧ fr_g FM h0 h' ∧ gn h0 77 7 ≤ gn h' 77 9) := by
  induction j with
  | zero =>
    intro h lv hh hfr hj hb L0
    have h5 := b500 hh
    refine E_al rfl L0 ?_
    refine E_al rfl L0 ?_
    have b1 : gn h 77 7 ≤ 500 := gn_hi hh rfl (by decide)
    refine E_gf rfl hh rfl (gi_gn hh rfl (by decide)) ?_
    refine E_ci 32 rfl ci32 ?_
    refine E_ci 32 rfl ci32 ?_
    refine E_call rfl (Sp_le (by first | exact Nat.add_le_add_left (Nat.le_of_ble_eq_true rfl) _ | exact Nat.le_of_ble_eq_true rfl | omega) (sp_isByte (d := 0) hh (by first | decide | with_reducible assumption | omega))) (chk77 hh rfl rfl (by show 0 ≤ 8; decide)) (fun h2 r2 => ?_)
    rintro ⟨e2, f2⟩
    rw [e2]
    rcases f2 with ⟨pb2, f2⟩ | ⟨pb2, f2⟩
    · rw [f2]
      show Ends _ _ (12, lv, [.int (nJ 0)], h, 0, 0) _
      refine E_ifF rfl (by decide) ?_
      refine E_al rfl L0 ?_
      refine E_al rfl L0 ?_
      have b3 : gn h 77 7 ≤ 500 := gn_hi hh rfl (by decide)
      refine E_gf rfl hh rfl (gi_gn hh rfl (by decide)) ?_
      refine E_ci 10 rfl ci10 ?_
      refine E_ci 10 rfl ci10 ?_
      refine E_call rfl (Sp_le (by first | exact Nat.add_le_add_left (Nat.le_of_ble_eq_true rfl) _ | exact Nat.le_of_ble_eq_true rfl | omega) (sp_isByte (d := 0) hh (by first | decide | with_reducible assumption | omega))) (chk77 hh rfl rfl (by show 0 ≤ 8; decide)) (fun h4 r4 => ?_)
      rintro ⟨e4, f4⟩
      rw [e4]
      rcases f4 with ⟨pb4, f4⟩ | ⟨pb4, f4⟩
      · rw [f4]
        show Ends _ _ (27, lv, [.int (nJ 0)], h, 0, 0) _
        refine E_ifT rfl (by decide) ?_
        exact fo_tail lv hh hfr (by first | decide | with_reducible assumption | omega) (by first | decide | with_reducible assumption | omega) L0
      · rw [f4]
        have lt4 := pb4.1
        show Ends _ _ (27, lv, [.int (nJ 1)], h, 0, 0) _
        refine E_ifF rfl (by decide) ?_
        refine E_al rfl L0 ?_
        refine E_dup rfl rfl ?_
        have b5 : gn h 77 7 ≤ 500 := gn_hi hh rfl (by decide)
        refine E_gf rfl hh rfl (gi_gn hh rfl (by decide)) ?_
        refine E_ci 1 rfl ci1 ?_
        refine E_bin rfl (nJ_add _ _) ?_
        refine E_pf rfl hh rfl ?_
        have hh6 : HH (pt h 77 7 (nJ (((gn h 77 7) + 1)))) := HH_ptn hh rfl (by first | decide | with_reducible assumption | omega) (by first | decide | with_reducible assumption | omega) (by first | decide | with_reducible assumption | omega)
        have fr6 : fr_g FM h0 (pt h 77 7 (nJ (((gn h 77 7) + 1)))) := fr_ptr (l := 7) (u := 7) rfl (by first | decide | with_reducible assumption | omega) (by first | decide | with_reducible assumption | omega) hfr
        have t6_0 : gn (pt h 77 7 (nJ (((gn h 77 7) + 1)))) 77 6 = gn h 77 6 := gn_ne (by first | exact gxx rfl | omega)
        have t6_1 : gn (pt h 77 7 (nJ (((gn h 77 7) + 1)))) 77 7 = ((gn h 77 7) + 1) := gn_ptn hh rfl (by first | decide | with_reducible assumption | omega) (by first | decide | with_reducible assumption | omega) (by first | decide | with_reducible assumption | omega)
        have t6_2 : gn (pt h 77 7 (nJ (((gn h 77 7) + 1)))) 77 8 = gn h 77 8 := gn_ne (by first | exact gxx rfl | omega)
        have t6_3 : gn (pt h 77 7 (nJ (((gn h 77 7) + 1)))) 77 9 = gn h 77 9 := gn_ne (by first | exact gxx rfl | omega)
        have t6_4 : gn (pt h 77 7 (nJ (((gn h 77 7) + 1)))) 77 12 = gn h 77 12 := gn_ne (by first | exact gxx rfl | omega)
        generalize hz6 : (pt h 77 7 (nJ (((gn h 77 7) + 1)))) = g6 at hh6 fr6 t6_0 t6_1 t6_2 t6_3 t6_4 ⊢
        refine E_goto rfl ?_
        exfalso; omega
    · rw [f2]
      have lt2 := pb2.1
      show Ends _ _ (12, lv, [.int (nJ 1)], h, 0, 0) _
      refine E_ifT rfl (by decide) ?_
      refine E_al rfl L0 ?_
      refine E_dup rfl rfl ?_
      have b7 : gn h 77 7 ≤ 500 := gn_hi hh rfl (by decide)
      refine E_gf rfl hh rfl (gi_gn hh rfl (by decide)) ?_
      refine E_ci 1 rfl ci1 ?_
      refine E_bin rfl (nJ_add _ _) ?_
      refine E_pf rfl hh rfl ?_
      have hh8 : HH (pt h 77 7 (nJ (((gn h 77 7) + 1)))) := HH_ptn hh rfl (by first | decide | with_reducible assumption | omega) (by first | decide | with_reducible assumption | omega) (by first | decide | with_reducible assumption | omega)
      have fr8 : fr_g FM h0 (pt h 77 7 (nJ (((gn h 77 7) + 1)))) := fr_ptr (l := 7) (u := 7) rfl (by first | decide | with_reducible assumption | omega) (by first | decide | with_reducible assumption | omega) hfr
      have t8_0 : gn (pt h 77 7 (nJ (((gn h 77 7) + 1)))) 77 6 = gn h 77 6 := gn_ne (by first | exact gxx rfl | omega)
      have t8_1 : gn (pt h 77 7 (nJ (((gn h 77 7) + 1)))) 77 7 = ((gn h 77 7) + 1) := gn_ptn hh rfl (by first | decide | with_reducible assumption | omega) (by first | decide | with_reducible assumption | omega) (by first | decide | with_reducible assumption | omega)
      have t8_2 : gn (pt h 77 7 (nJ (((gn h 77 7) + 1)))) 77 8 = gn h 77 8 := gn_ne (by first | exact gxx rfl | omega)
      have t8_3 : gn (pt h 77 7 (nJ (((gn h 77 7) + 1)))) 77 9 = gn h 77 9 := gn_ne (by first | exact gxx rfl | omega)
      have t8_4 : gn (pt h 77 7 (nJ (((gn h 77 7) + 1)))) 77 12 = gn h 77 12 := gn_ne (by first | exact gxx rfl | omega)
      generalize hz8 : (pt h 77 7 (nJ (((gn h 77 7) + 1)))) = g8 at hh8 fr8 t8_0 t8_1 t8_2 t8_3 t8_4 ⊢
      refine E_goto rfl ?_
      exfalso; omega
  | succ j ih =>
    intro h lv hh hfr hj hb L0
    have h5 := b500 hh
    refine E_al rfl L0 ?_
    refine E_al rfl L0 ?_
    have b1 : gn h 77 7 ≤ 500 := gn_hi hh rfl (by decide)
    refine E_gf rfl hh rfl (gi_gn hh rfl (by decide)) ?_
    refine E_ci 32 rfl ci32 ?_
    refine E_ci 32 rfl ci32 ?_
    refine E_call rfl (Sp_le (by first | exact Nat.add_le_add_left (Nat.le_of_ble_eq_true rfl) _ | exact Nat.le_of_ble_eq_true rfl | omega) (sp_isByte (d := 0) hh (by first | decide | with_reducible assumption | omega))) (chk77 hh rfl rfl (by show 0 ≤ 8; decide)) (fun h2 r2 => ?_)
    rintro ⟨e2, f2⟩
    rw [e2]
    rcases f2 with ⟨pb2, f2⟩ | ⟨pb2, f2⟩
    · rw [f2]
      show Ends _ _ (12, lv, [.int (nJ 0)], h, 0, 0) _
      refine E_ifF rfl (by decide) ?_
      refine E_al rfl L0 ?_
      refine E_al rfl L0 ?_
      have b3 : gn h 77 7 ≤ 500 := gn_hi hh rfl (by decide)
      refine E_gf rfl hh rfl (gi_gn hh rfl (by decide)) ?_
      refine E_ci 10 rfl ci10 ?_
      refine E_ci 10 rfl ci10 ?_
      refine E_call rfl (Sp_le (by first | exact Nat.add_le_add_left (Nat.le_of_ble_eq_true rfl) _ | exact Nat.le_of_ble_eq_true rfl | omega) (sp_isByte (d := 0) hh (by first | decide | with_reducible assumption | omega))) (chk77 hh rfl rfl (by show 0 ≤ 8; decide)) (fun h4 r4 => ?_)
      rintro ⟨e4, f4⟩
      rw [e4]
      rcases f4 with ⟨pb4, f4⟩ | ⟨pb4, f4⟩
      · rw [f4]
        show Ends _ _ (27, lv, [.int (nJ 0)], h, 0, 0) _
        refine E_ifT rfl (by decide) ?_
        exact fo_tail lv hh hfr (by first | decide | with_reducible assumption | omega) (by first | decide | with_reducible assumption | omega) L0
      · rw [f4]
        have lt4 := pb4.1
        show Ends _ _ (27, lv, [.int (nJ 1)], h, 0, 0) _
        refine E_ifF rfl (by decide) ?_
        refine E_al rfl L0 ?_
        refine E_dup rfl rfl ?_
        have b5 : gn h 77 7 ≤ 500 := gn_hi hh rfl (by decide)
        refine E_gf rfl hh rfl (gi_gn hh rfl (by decide)) ?_
        refine E_ci 1 rfl ci1 ?_
        refine E_bin rfl (nJ_add _ _) ?_
        refine E_pf rfl hh rfl ?_
        have hh6 : HH (pt h 77 7 (nJ (((gn h 77 7) + 1)))) := HH_ptn hh rfl (by first | decide | with_reducible assumption | omega) (by first | decide | with_reducible assumption | omega) (by first | decide | with_reducible assumption | omega)
        have fr6 : fr_g FM h0 (pt h 77 7 (nJ (((gn h 77 7) + 1)))) := fr_ptr (l := 7) (u := 7) rfl (by first | decide | with_reducible assumption | omega) (by first | decide | with_reducible assumption | omega) hfr
        have t6_0 : gn (pt h 77 7 (nJ (((gn h 77 7) + 1)))) 77 6 = gn h 77 6 := gn_ne (by first | exact gxx rfl | omega)
        have t6_1 : gn (pt h 77 7 (nJ (((gn h 77 7) + 1)))) 77 7 = ((gn h 77 7) + 1) := gn_ptn hh rfl (by first | decide | with_reducible assumption | omega) (by first | decide | with_reducible assumption | omega) (by first | decide | with_reducible assumption | omega)
        have t6_2 : gn (pt h 77 7 (nJ (((gn h 77 7) + 1)))) 77 8 = gn h 77 8 := gn_ne (by first | exact gxx rfl | omega)
        have t6_3 : gn (pt h 77 7 (nJ (((gn h 77 7) + 1)))) 77 9 = gn h 77 9 := gn_ne (by first | exact gxx rfl | omega)
        have t6_4 : gn (pt h 77 7 (nJ (((gn h 77 7) + 1)))) 77 12 = gn h 77 12 := gn_ne (by first | exact gxx rfl | omega)
        generalize hz6 : (pt h 77 7 (nJ (((gn h 77 7) + 1)))) = g6 at hh6 fr6 t6_0 t6_1 t6_2 t6_3 t6_4 ⊢
        refine E_goto rfl ?_
        exact ih lv hh6 fr6 (by first | decide | with_reducible assumption | omega) (by first | decide | with_reducible assumption | omega) L0
    · rw [f2]
      have lt2 := pb2.1
      show Ends _ _ (12, lv, [.int (nJ 1)], h, 0, 0) _
      refine E_ifT rfl (by decide) ?_
      refine E_al rfl L0 ?_
      refine E_dup rfl rfl ?_
      have b7 : gn h 77 7 ≤ 500 := gn_hi hh rfl (by decide)
      refine E_gf rfl hh rfl (gi_gn hh rfl (by decide)) ?_
      refine E_ci 1 rfl ci1 ?_
      refine E_bin rfl (nJ_add _ _) ?_
      refine E_pf rfl hh rfl ?_
      have hh8 : HH (pt h 77 7 (nJ (((gn h 77 7) + 1)))) := HH_ptn hh rfl (by first | decide | with_reducible assumption | omega) (by first | decide | with_reducible assumption | omega) (by first | decide | with_reducible assumption | omega)
      have fr8 : fr_g FM h0 (pt h 77 7 (nJ (((gn h 77 7) + 1)))) := fr_ptr (l := 7) (u := 7) rfl (by first | decide | with_reducible assumption | omega) (by first | decide | with_reducible assumption | omega) hfr
      have t8_0 : gn (pt h 77 7 (nJ (((gn h 77 7) + 1)))) 77 6 = gn h 77 6 := gn_ne (by first | exact gxx rfl | omega)
      have t8_1 : gn (pt h 77 7 (nJ (((gn h 77 7) + 1)))) 77 7 = ((gn h 77 7) + 1) := gn_ptn hh rfl (by first | decide | with_reducible assumption | omega) (by first | decide | with_reducible assumption | omega) (by first | decide | with_reducible assumption | omega)
      have t8_2 : gn (pt h 77 7 (nJ (((gn h 77 7) + 1)))) 77 8 = gn h 77 8 := gn_ne (by first | exact gxx rfl | omega)
      have t8_3 : gn (pt h 77 7 (nJ (((gn h 77 7) + 1)))) 77 9 = gn h 77 9 := gn_ne (by first | exact gxx rfl | omega)
      have t8_4 : gn (pt h 77 7 (nJ (((gn h 77 7) + 1)))) 77 12 = gn h 77 12 := gn_ne (by first | exact gxx rfl | omega)
      generalize hz8 : (pt h 77 7 (nJ (((gn h 77 7) + 1)))) = g8 at hh8 fr8 t8_0 t8_1 t8_2 t8_3 t8_4 ⊢
      refine E_goto rfl ?_
      exact ih lv hh8 fr8 (by first | decide | with_reducible assumption | omega) (by first | decide | with_reducible assumption | omega) L0
theorem sp_follows {h0 : pm_H} {d : Nat} (hh : HH h0) (hs : gn h0 77 7 ≤ gn h0 77 6) : Sp (d + 2) 251 h0 [.ref 77] (fun h' r => r = none ∧ RR h' ∧ fr_g FM h0 h' ∧ gn h0 77 7 ≤ gn h' 77 9) := by
  refine Sp_of aiX9_follows rfl rfl rfl ?_
  exact fo_loop (gn h0 77 6 - gn h0 77 7) (lv_args 0 [.ref 77]) hh (fr_rf _ _) (by first | decide | with_reducible assumption | omega) (Nat.le_refl _) rfl
noncomputable def FB : List Rng := [(77, 12, 13)]
theorem sp_fails {h0 : pm_H} {d : Nat} {k : Nat} (hh0 : HH h0) (hk1 : 1 ≤ k) (hk3 : k ≤ 3) : Sp (d + 1) 243 h0 [.ref 77, .int (nJ k)] (fun h' r => r = none ∧ HH h' ∧ fr_g FB h0 h' ∧ ¬ gn h' 77 12 = 0) := by
  refine Sp_of aiX9_fails rfl rfl rfl ?_
  have L0 : pm_get (lv_args 0 [.ref 77, .int (nJ k)]) 0 = some (.ref 77) := rfl
  have L1 : pm_get (lv_args 0 [.ref 77, .int (nJ k)]) 1 = some (.int (nJ k)) := rfl
  generalize lv_args 0 [.ref 77, .int (nJ k)] = lv at L0 L1 ⊢
  have h5 := b500 hh0
  refine E_al rfl L0 ?_
  have b1 : gn h0 77 12 ≤ 3 := gn_hi hh0 rfl (by decide)
  refine E_gf rfl hh0 rfl (gi_gn hh0 rfl (by decide)) ?_
  by_cases hb2 : (gn h0 77 12) = 0
  · refine E_ifT rfl (decide_eq_true ((nJ_eq0 (by first | decide | with_reducible assumption | omega)).mpr hb2)) ?_
    refine E_al rfl L0 ?_
    refine E_il rfl L1 ?_
    refine E_pf rfl hh0 rfl ?_
    have hh3 : HH (pt h0 77 12 (nJ k)) := HH_ptn hh0 rfl (by first | decide | with_reducible assumption | omega) (by first | decide | with_reducible assumption | omega) (by first | decide | with_reducible assumption | omega)
    have fr3 : fr_g FB h0 (pt h0 77 12 (nJ k)) := fr_ptr (l := 12) (u := 12) rfl (by first | decide | with_reducible assumption | omega) (by first | decide | with_reducible assumption | omega) (fr_rf FB h0)
    have t3_0 : gn (pt h0 77 12 (nJ k)) 77 6 = gn h0 77 6 := gn_ne (by first | exact gxx rfl | omega)
    have t3_1 : gn (pt h0 77 12 (nJ k)) 77 7 = gn h0 77 7 := gn_ne (by first | exact gxx rfl | omega)
    have t3_2 : gn (pt h0 77 12 (nJ k)) 77 8 = gn h0 77 8 := gn_ne (by first | exact gxx rfl | omega)
    have t3_3 : gn (pt h0 77 12 (nJ k)) 77 9 = gn h0 77 9 := gn_ne (by first | exact gxx rfl | omega)
    have t3_4 : gn (pt h0 77 12 (nJ k)) 77 12 = k := gn_ptn hh0 rfl (by first | decide | with_reducible assumption | omega) (by first | decide | with_reducible assumption | omega) (by first | decide | with_reducible assumption | omega)
    generalize hz3 : (pt h0 77 12 (nJ k)) = g3 at hh3 fr3 t3_0 t3_1 t3_2 t3_3 t3_4 ⊢
    refine E_al rfl L0 ?_
    refine E_al rfl L0 ?_
    have b4 : gn g3 77 9 ≤ 500 := gn_hi hh3 rfl (by decide)
    refine E_gf rfl hh3 rfl (gi_gn hh3 rfl (by decide)) ?_
    refine E_pf rfl hh3 rfl ?_
    have hh5 : HH (pt g3 77 13 (nJ ((gn g3 77 9)))) := HH_ptn hh3 rfl (by first | decide | with_reducible assumption | omega) (by first | decide | with_reducible assumption | omega) (by first | decide | with_reducible assumption | omega)
    have fr5 : fr_g FB h0 (pt g3 77 13 (nJ ((gn g3 77 9)))) := fr_ptr (l := 13) (u := 13) rfl (by first | decide | with_reducible assumption | omega) (by first | decide | with_reducible assumption | omega) fr3
    have t5_0 : gn (pt g3 77 13 (nJ ((gn g3 77 9)))) 77 6 = gn g3 77 6 := gn_ne (by first | exact gxx rfl | omega)
    have t5_1 : gn (pt g3 77 13 (nJ ((gn g3 77 9)))) 77 7 = gn g3 77 7 := gn_ne (by first | exact gxx rfl | omega)
    have t5_2 : gn (pt g3 77 13 (nJ ((gn g3 77 9)))) 77 8 = gn g3 77 8 := gn_ne (by first | exact gxx rfl | omega)
    have t5_3 : gn (pt g3 77 13 (nJ ((gn g3 77 9)))) 77 9 = gn g3 77 9 := gn_ne (by first | exact gxx rfl | omega)
    have t5_4 : gn (pt g3 77 13 (nJ ((gn g3 77 9)))) 77 12 = gn g3 77 12 := gn_ne (by first | exact gxx rfl | omega)
    generalize hz5 : (pt g3 77 13 (nJ ((gn g3 77 9)))) = g5 at hh5 fr5 t5_0 t5_1 t5_2 t5_3 t5_4 ⊢
    exact E_ret rfl ⟨rfl, hh5, fr5, by omega⟩
  · refine E_ifF rfl (decide_eq_false (fun q => hb2 ((nJ_eq0 (by first | decide | with_reducible assumption | omega)).mp q))) ?_
    exact E_ret rfl ⟨rfl, hh0, (fr_rf FB h0), by omega⟩
theorem sp_is {h0 : pm_H} {d : Nat} {x : Int64} (hh0 : HH h0) : Sp (d + 1) 264 h0 [.ref 77, .long x] (fun h' r => h' = h0 ∧ (r = some (.int (nJ 0)) ∨ r = some (.int (nJ 1)) ∧ gn h0 77 12 = 0 ∧ gn h0 77 8 = 1)) := by
  refine Sp_of aiX9_is rfl rfl rfl ?_
  have L0 : pm_get (lv_args 0 [.ref 77, .long x]) 0 = some (.ref 77) := rfl
  have L1 : pm_get (lv_args 0 [.ref 77, .long x]) 1 = some (.long x) := rfl
  generalize lv_args 0 [.ref 77, .long x] = lv at L0 L1 ⊢
  have h5 := b500 hh0
  refine E_al rfl L0 ?_
  have b1 : gn h0 77 12 ≤ 3 := gn_hi hh0 rfl (by decide)
  refine E_gf rfl hh0 rfl (gi_gn hh0 rfl (by decide)) ?_
  by_cases hb2 : ¬ (gn h0 77 12) = 0
  · refine E_ifT rfl (decide_eq_true (fun q => hb2 ((nJ_eq0 (by first | decide | with_reducible assumption | omega)).mp q))) ?_
    refine E_ci 0 rfl ci0 ?_
    exact E_rtz rfl (.inl rfl) ⟨rfl, .inl rfl⟩
  · refine E_ifF rfl (decide_eq_false (fun q => hb2 (fun z => q ((nJ_eq0 (by first | decide | with_reducible assumption | omega)).mpr z)))) ?_
    refine E_al rfl L0 ?_
    have b3 : gn h0 77 8 ≤ 4 := gn_hi hh0 rfl (by decide)
    refine E_gf rfl hh0 rfl (gi_gn hh0 rfl (by decide)) ?_
    refine E_ci 1 rfl ci1 ?_
    by_cases hb4 : ¬ (gn h0 77 8) = 1
    · refine E_icT rfl (decide_eq_true (fun q => hb4 ((nJ_eq (by first | decide | with_reducible assumption | omega) (by first | decide | with_reducible assumption | omega)).mp q))) ?_
      refine E_ci 0 rfl ci0 ?_
      exact E_rtz rfl (.inl rfl) ⟨rfl, .inl rfl⟩
    · refine E_icF rfl (decide_eq_false (fun q => hb4 (fun z => q ((nJ_eq (by first | decide | with_reducible assumption | omega) (by first | decide | with_reducible assumption | omega)).mpr z)))) ?_
      refine E_al rfl L0 ?_
      refine E_gfl rfl hh0 rfl (fun x5 => ?_)
      refine E_ll rfl L1 ?_
      refine E_lcmp rfl ?_
      by_cases hb6 : ¬ (lg_cmp x5 x) = 0
      · refine E_ifT rfl (decide_eq_true hb6) ?_
        refine E_ci 0 rfl ci0 ?_
        exact E_rtz rfl (.inl rfl) ⟨rfl, .inl rfl⟩
      · refine E_ifF rfl (decide_eq_false hb6) ?_
        refine E_ci 1 rfl ci1 ?_
        refine E_goto rfl ?_
        exact E_rtz rfl (.inr rfl) ⟨rfl, .inr ⟨rfl, by omega, by omega⟩⟩
theorem sp_takesWord {h0 : pm_H} {d : Nat} {x : Int64} (hh0 : HH h0) (hr1 : gn h0 77 9 ≤ gn h0 77 7) (hr2 : gn h0 77 7 ≤ gn h0 77 6) (hr3 : gn h0 77 8 = 0 ∨ gn h0 77 9 < gn h0 77 7) : Sp (d + 4) 358 h0 [.ref 77, .long x] (fun h' r => RR h' ∧ fr_g BB h0 h' ∧ gn h0 77 9 ≤ gn h' 77 9 ∧ gn h' 77 12 = gn h0 77 12 ∧ (r = some (.int (nJ 0)) ∨ r = some (.int (nJ 1)))) := by
  refine Sp_of aiX9_takesWord rfl rfl rfl ?_
  have L0 : pm_get (lv_args 0 [.ref 77, .long x]) 0 = some (.ref 77) := rfl
  have L1 : pm_get (lv_args 0 [.ref 77, .long x]) 1 = some (.long x) := rfl
  generalize lv_args 0 [.ref 77, .long x] = lv at L0 L1 ⊢
  have h5 := b500 hh0
  refine E_al rfl L0 ?_
  refine E_ll rfl L1 ?_
  refine E_call rfl (Sp_le (by first | exact Nat.add_le_add_left (Nat.le_of_ble_eq_true rfl) _ | exact Nat.le_of_ble_eq_true rfl | omega) (sp_is (d := 0) hh0)) (chk77 hh0 rfl rfl (by show 0 ≤ 8; decide)) (fun h1 r1 => ?_)
  rintro ⟨e1, f1⟩
  rw [e1]
  rcases f1 with f1 | ⟨f1, ib1, it1⟩
  · rw [f1]
    show Ends _ _ (5, lv, [.int (nJ 0)], h0, 0, 0) _
    refine E_ifF rfl (by decide) ?_
    refine E_ci 0 rfl ci0 ?_
    exact E_rtz rfl (.inl rfl) ⟨⟨hh0, by omega, by omega, by omega⟩, (fr_rf BB h0), by omega, by omega, .inl rfl⟩
  · rw [f1]
    show Ends _ _ (5, lv, [.int (nJ 1)], h0, 0, 0) _
    refine E_ifT rfl (by decide) ?_
    refine E_al rfl L0 ?_
    refine E_call rfl (Sp_le (by first | exact Nat.add_le_add_left (Nat.le_of_ble_eq_true rfl) _ | exact Nat.le_of_ble_eq_true rfl | omega) (sp_follows (d := 0) hh0 (by first | decide | with_reducible assumption | omega))) (chk77 hh0 rfl rfl (by show 0 ≤ 8; decide)) (fun h2 r2 => ?_)
    rintro ⟨e2, ⟨hh2, ra2, rb2, rc2⟩, fq2, mo2⟩
    rw [e2]
    have fr2 : fr_g BB h0 h2 := fr_trans (fr_rf BB h0) (fr_wk rfl fq2)
    have t2_0 : gn h2 77 6 = gn h0 77 6 := fr_gn fq2 rfl
    have t2_4 : gn h2 77 12 = gn h0 77 12 := fr_gn fq2 rfl
    show Ends _ _ (14, lv, [], h2, 0, 0) _
    refine E_ci 1 rfl ci1 ?_
    exact E_rtz rfl (.inr rfl) ⟨⟨hh2, by omega, by omega, by omega⟩, fr2, by omega, by omega, .inr rfl⟩
theorem sp_asks {h0 : pm_H} {d : Nat} {x : Int64} (hh0 : HH h0) (hr1 : gn h0 77 9 ≤ gn h0 77 7) (hr2 : gn h0 77 7 ≤ gn h0 77 6) (hr3 : gn h0 77 8 = 0 ∨ gn h0 77 9 < gn h0 77 7) : Sp (d + 5) 210 h0 [.ref 77, .long x] (fun h' r => r = none ∧ RR h' ∧ fr_g BB h0 h' ∧ gn h0 77 9 ≤ gn h' 77 9 ∧ (gn h' 77 12 = 0 → gn h0 77 12 = 0)) := by
  refine Sp_of aiX9_asks rfl rfl rfl ?_
  have L0 : pm_get (lv_args 0 [.ref 77, .long x]) 0 = some (.ref 77) := rfl
  have L1 : pm_get (lv_args 0 [.ref 77, .long x]) 1 = some (.long x) := rfl
  generalize lv_args 0 [.ref 77, .long x] = lv at L0 L1 ⊢
  have h5 := b500 hh0
  refine E_al rfl L0 ?_
  refine E_ll rfl L1 ?_
  refine E_call rfl (Sp_le (by first | exact Nat.add_le_add_left (Nat.le_of_ble_eq_true rfl) _ | exact Nat.le_of_ble_eq_true rfl | omega) (sp_takesWord (d := 0) hh0 (by first | decide | with_reducible assumption | omega) (by first | decide | with_reducible assumption | omega) (by first | decide | with_reducible assumption | omega))) (chk77 hh0 rfl rfl (by show 0 ≤ 8; decide)) (fun h1 r1 => ?_)
  rintro ⟨⟨hh1, ra1, rb1, rc1⟩, fq1, mo1, bd1, f1⟩
  have fr1 : fr_g BB h0 h1 := fr_trans (fr_rf BB h0) (fr_wk rfl fq1)
  have t1_0 : gn h1 77 6 = gn h0 77 6 := fr_gn fq1 rfl
  rcases f1 with f1 | f1
  · rw [f1]
    show Ends _ _ (5, lv, [.int (nJ 0)], h1, 0, 0) _
    refine E_ifF rfl (by decide) ?_
    refine E_al rfl L0 ?_
    refine E_ci 1 rfl ci1 ?_
    refine E_call rfl (Sp_le (by first | exact Nat.add_le_add_left (Nat.le_of_ble_eq_true rfl) _ | exact Nat.le_of_ble_eq_true rfl | omega) (sp_fails (d := 0) (k := 1) hh1 (by first | decide | with_reducible assumption | omega) (by first | decide | with_reducible assumption | omega))) (chk77 hh1 rfl rfl (by show 0 ≤ 8; decide)) (fun h2 r2 => ?_)
    rintro ⟨e2, hh2, fq2, mo2⟩
    rw [e2]
    have fr2 : fr_g BB h0 h2 := fr_trans fr1 (fr_wk rfl fq2)
    have t2_0 : gn h2 77 6 = gn h1 77 6 := fr_gn fq2 rfl
    have t2_1 : gn h2 77 7 = gn h1 77 7 := fr_gn fq2 rfl
    have t2_2 : gn h2 77 8 = gn h1 77 8 := fr_gn fq2 rfl
    have t2_3 : gn h2 77 9 = gn h1 77 9 := fr_gn fq2 rfl
    show Ends _ _ (13, lv, [], h2, 0, 0) _
    exact E_ret rfl ⟨rfl, ⟨hh2, by omega, by omega, by omega⟩, fr2, by omega, by omega⟩
  · rw [f1]
    show Ends _ _ (5, lv, [.int (nJ 1)], h1, 0, 0) _
    refine E_ifT rfl (by decide) ?_
    exact E_ret rfl ⟨rfl, ⟨hh1, by omega, by omega, by omega⟩, fr1, by omega, by omega⟩
theorem sp_number {h0 : pm_H} {d : Nat} {lo hi : Nat} (hh0 : HH h0) (hr1 : gn h0 77 9 ≤ gn h0 77 7) (hr2 : gn h0 77 7 ≤ gn h0 77 6) (hr3 : gn h0 77 8 = 0 ∨ gn h0 77 9 < gn h0 77 7) (hlh : lo ≤ hi) (hi2 : hi < 2147483648) : Sp (d + 4) 316 h0 [.ref 77, .int (nJ lo), .int (nJ hi)] (fun h' r => RR h' ∧ fr_g BB h0 h' ∧ gn h0 77 9 ≤ gn h' 77 9 ∧ ∃ v, lo ≤ v ∧ v ≤ hi ∧ r = some (.int (nJ v)) ∧ (gn h' 77 12 = 0 → gn h0 77 12 = 0 ∧ gn h0 77 8 = 2 ∧ gi h0 77 10 = nJ v)) := by
  refine Sp_of aiX9_number rfl rfl rfl ?_
  have L0 : pm_get (lv_args 0 [.ref 77, .int (nJ lo), .int (nJ hi)]) 0 = some (.ref 77) := rfl
  have L1 : pm_get (lv_args 0 [.ref 77, .int (nJ lo), .int (nJ hi)]) 1 = some (.int (nJ lo)) := rfl
  have L2 : pm_get (lv_args 0 [.ref 77, .int (nJ lo), .int (nJ hi)]) 2 = some (.int (nJ hi)) := rfl
  generalize lv_args 0 [.ref 77, .int (nJ lo), .int (nJ hi)] = lv at L0 L1 L2 ⊢
  have h5 := b500 hh0
  refine E_al rfl L0 ?_
  have b1 : gn h0 77 12 ≤ 3 := gn_hi hh0 rfl (by decide)
  refine E_gf rfl hh0 rfl (gi_gn hh0 rfl (by decide)) ?_
  by_cases hb2 : (gn h0 77 12) = 0
  · refine E_ifT rfl (decide_eq_true ((nJ_eq0 (by first | decide | with_reducible assumption | omega)).mpr hb2)) ?_
    refine E_al rfl L0 ?_
    have b3 : gn h0 77 8 ≤ 4 := gn_hi hh0 rfl (by decide)
    refine E_gf rfl hh0 rfl (gi_gn hh0 rfl (by decide)) ?_
    refine E_ci 2 rfl ci2 ?_
    by_cases hb4 : (gn h0 77 8) = 2
    · refine E_icT rfl (decide_eq_true ((nJ_eq (by first | decide | with_reducible assumption | omega) (by first | decide | with_reducible assumption | omega)).mpr hb4)) ?_
      refine E_al rfl L0 ?_
      refine E_gf rfl hh0 rfl (rfl) ?_
      refine E_i2l rfl ?_
      refine E_il rfl L1 ?_
      refine E_i2l rfl ?_
      refine E_il rfl L2 ?_
      refine E_i2l rfl ?_
      refine E_call rfl (sp_in (a := ((gi h0 77 10)).toInt) (b := ((lo : Nat) : Int)) (c := ((hi : Nat) : Int)) (i2l_toInt _) (i2l_nJ (by first | decide | with_reducible assumption | omega)) (i2l_nJ (by first | decide | with_reducible assumption | omega))) (chkS rfl (by show 0 ≤ 8; decide)) (fun h5 r5 => ?_)
      rintro ⟨e5, f5⟩
      rw [e5, f5]
      show Ends _ _ (36, lv, [.int (zb (((lo : Nat) : Int) ≤ ((gi h0 77 10)).toInt ∧ ((gi h0 77 10)).toInt ≤ ((hi : Nat) : Int)))], h0, 0, 0) _
      by_cases hb6 : ((lo : Nat) : Int) ≤ ((gi h0 77 10)).toInt ∧ ((gi h0 77 10)).toInt ≤ ((hi : Nat) : Int)
      · refine E_ifT rfl (by rw [zb_T hb6]; rfl) ?_
        obtain ⟨v9, hv2, hv9⟩ := nJ_of2 (n := hi) (x := gi h0 77 10) (by have := hb6.1; omega) hb6.2
        have hv1 : lo ≤ v9 := by have h9 := hb6.1; rw [hv9, nJ_toInt (by first | decide | with_reducible assumption | omega)] at h9; omega
        refine E_al rfl L0 ?_
        refine E_gf rfl hh0 rfl (show gi h0 77 10 = nJ v9 from hv9) ?_
        refine E_is rfl (fun lv7 L7_3 kp7 => ?_)
        have L7_0 := kp7 0 _ (nbz rfl) rfl L0
        have L7_1 := kp7 1 _ (nbz rfl) rfl L1
        have L7_2 := kp7 2 _ (nbz rfl) rfl L2
        refine E_al rfl L7_0 ?_
        refine E_call rfl (Sp_le (by first | exact Nat.add_le_add_left (Nat.le_of_ble_eq_true rfl) _ | exact Nat.le_of_ble_eq_true rfl | omega) (sp_follows (d := 0) hh0 (by first | decide | with_reducible assumption | omega))) (chk77 hh0 rfl rfl (by show 0 ≤ 8; decide)) (fun h8 r8 => ?_)
        rintro ⟨e8, ⟨hh8, ra8, rb8, rc8⟩, fq8, mo8⟩
        rw [e8]
        have fr8 : fr_g BB h0 h8 := fr_trans (fr_rf BB h0) (fr_wk rfl fq8)
        have t8_0 : gn h8 77 6 = gn h0 77 6 := fr_gn fq8 rfl
        have t8_4 : gn h8 77 12 = gn h0 77 12 := fr_gn fq8 rfl
        show Ends _ _ (55, lv7, [], h8, 0, 0) _
        refine E_il rfl L7_3 ?_
        exact E_rti rfl ⟨⟨hh8, by omega, by omega, by omega⟩, fr8, by omega, v9, hv1, hv2, rfl, fun _ => ⟨by omega, by omega, hv9⟩⟩
      · refine E_ifF rfl (by rw [zb_F hb6]; rfl) ?_
        refine E_al rfl L0 ?_
        refine E_ci 2 rfl ci2 ?_
        refine E_call rfl (Sp_le (by first | exact Nat.add_le_add_left (Nat.le_of_ble_eq_true rfl) _ | exact Nat.le_of_ble_eq_true rfl | omega) (sp_fails (d := 0) (k := 2) hh0 (by first | decide | with_reducible assumption | omega) (by first | decide | with_reducible assumption | omega))) (chk77 hh0 rfl rfl (by show 0 ≤ 8; decide)) (fun h9 r9 => ?_)
        rintro ⟨e9, hh9, fq9, mo9⟩
        rw [e9]
        have fr9 : fr_g BB h0 h9 := fr_trans (fr_rf BB h0) (fr_wk rfl fq9)
        have t9_0 : gn h9 77 6 = gn h0 77 6 := fr_gn fq9 rfl
        have t9_1 : gn h9 77 7 = gn h0 77 7 := fr_gn fq9 rfl
        have t9_2 : gn h9 77 8 = gn h0 77 8 := fr_gn fq9 rfl
        have t9_3 : gn h9 77 9 = gn h0 77 9 := fr_gn fq9 rfl
        show Ends _ _ (44, lv, [], h9, 0, 0) _
        refine E_il rfl L1 ?_
        exact E_rti rfl ⟨⟨hh9, by omega, by omega, by omega⟩, fr9, by omega, lo, Nat.le_refl _, hlh, rfl, fun q => by omega⟩
    · refine E_icF rfl (decide_eq_false (fun q => hb4 ((nJ_eq (by first | decide | with_reducible assumption | omega) (by first | decide | with_reducible assumption | omega)).mp q))) ?_
      refine E_al rfl L0 ?_
      refine E_ci 1 rfl ci1 ?_
      refine E_call rfl (Sp_le (by first | exact Nat.add_le_add_left (Nat.le_of_ble_eq_true rfl) _ | exact Nat.le_of_ble_eq_true rfl | omega) (sp_fails (d := 0) (k := 1) hh0 (by first | decide | with_reducible assumption | omega) (by first | decide | with_reducible assumption | omega))) (chk77 hh0 rfl rfl (by show 0 ≤ 8; decide)) (fun h10 r10 => ?_)
      rintro ⟨e10, hh10, fq10, mo10⟩
      rw [e10]
      have fr10 : fr_g BB h0 h10 := fr_trans (fr_rf BB h0) (fr_wk rfl fq10)
      have t10_0 : gn h10 77 6 = gn h0 77 6 := fr_gn fq10 rfl
      have t10_1 : gn h10 77 7 = gn h0 77 7 := fr_gn fq10 rfl
      have t10_2 : gn h10 77 8 = gn h0 77 8 := fr_gn fq10 rfl
      have t10_3 : gn h10 77 9 = gn h0 77 9 := fr_gn fq10 rfl
      show Ends _ _ (22, lv, [], h10, 0, 0) _
      refine E_il rfl L1 ?_
      exact E_rti rfl ⟨⟨hh10, by omega, by omega, by omega⟩, fr10, by omega, lo, Nat.le_refl _, hlh, rfl, fun q => by omega⟩
  · refine E_ifF rfl (decide_eq_false (fun q => hb2 ((nJ_eq0 (by first | decide | with_reducible assumption | omega)).mp q))) ?_
    refine E_il rfl L1 ?_
    exact E_rti rfl ⟨⟨hh0, by omega, by omega, by omega⟩, (fr_rf BB h0), by omega, lo, Nat.le_refl _, hlh, rfl, fun q => by omega⟩
theorem sp_number_ {h0 : pm_H} {d : Nat} {x : Int64} {lo hi : Nat} (hh0 : HH h0) (hr1 : gn h0 77 9 ≤ gn h0 77 7) (hr2 : gn h0 77 7 ≤ gn h0 77 6) (hr3 : gn h0 77 8 = 0 ∨ gn h0 77 9 < gn h0 77 7) (hlh : lo ≤ hi) (hi2 : hi < 2147483648) : Sp (d + 6) 317 h0 [.ref 77, .long x, .int (nJ lo), .int (nJ hi)] (fun h' r => RR h' ∧ fr_g BB h0 h' ∧ gn h0 77 9 ≤ gn h' 77 9 ∧ ∃ v, lo ≤ v ∧ v ≤ hi ∧ r = some (.int (nJ v)) ∧ (gn h' 77 12 = 0 → gn h0 77 12 = 0)) := by
  refine Sp_of aiX9_number_ rfl rfl rfl ?_
  have L0 : pm_get (lv_args 0 [.ref 77, .long x, .int (nJ lo), .int (nJ hi)]) 0 = some (.ref 77) := rfl
  have L1 : pm_get (lv_args 0 [.ref 77, .long x, .int (nJ lo), .int (nJ hi)]) 1 = some (.long x) := rfl
  have L3 : pm_get (lv_args 0 [.ref 77, .long x, .int (nJ lo), .int (nJ hi)]) 3 = some (.int (nJ lo)) := rfl
  have L4 : pm_get (lv_args 0 [.ref 77, .long x, .int (nJ lo), .int (nJ hi)]) 4 = some (.int (nJ hi)) := rfl
  generalize lv_args 0 [.ref 77, .long x, .int (nJ lo), .int (nJ hi)] = lv at L0 L1 L3 L4 ⊢
  have h5 := b500 hh0
  refine E_al rfl L0 ?_
  refine E_ll rfl L1 ?_
  refine E_call rfl (Sp_le (by first | exact Nat.add_le_add_left (Nat.le_of_ble_eq_true rfl) _ | exact Nat.le_of_ble_eq_true rfl | omega) (sp_asks (d := 0) hh0 (by first | decide | with_reducible assumption | omega) (by first | decide | with_reducible assumption | omega) (by first | decide | with_reducible assumption | omega))) (chk77 hh0 rfl rfl (by show 0 ≤ 8; decide)) (fun h1 r1 => ?_)
  rintro ⟨e1, ⟨hh1, ra1, rb1, rc1⟩, fq1, mo1, bd1⟩
  rw [e1]
  have fr1 : fr_g BB h0 h1 := fr_trans (fr_rf BB h0) (fr_wk rfl fq1)
  have t1_0 : gn h1 77 6 = gn h0 77 6 := fr_gn fq1 rfl
  show Ends _ _ (5, lv, [], h1, 0, 0) _
  refine E_al rfl L0 ?_
  refine E_il rfl L3 ?_
  refine E_il rfl L4 ?_
  refine E_call rfl (Sp_le (by first | exact Nat.add_le_add_left (Nat.le_of_ble_eq_true rfl) _ | exact Nat.le_of_ble_eq_true rfl | omega) (sp_number (d := 0) hh1 (by first | decide | with_reducible assumption | omega) (by first | decide | with_reducible assumption | omega) (by first | decide | with_reducible assumption | omega) (by first | decide | with_reducible assumption | omega) (by first | decide | with_reducible assumption | omega))) (chk77 hh1 rfl rfl (by show 0 ≤ 8; decide)) (fun h2 r2 => ?_)
  rintro ⟨⟨hh2, ra2, rb2, rc2⟩, fq2, mo2, v2, va2, vb2, f2, vc2⟩
  rw [f2]
  have fr2 : fr_g BB h0 h2 := fr_trans fr1 (fr_wk rfl fq2)
  have t2_0 : gn h2 77 6 = gn h1 77 6 := fr_gn fq2 rfl
  show Ends _ _ (12, lv, [.int (nJ v2)], h2, 0, 0) _
  exact E_rti rfl ⟨⟨hh2, by omega, by omega, by omega⟩, fr2, by omega, _, va2, vb2, rfl, fun q => by have := vc2 q; omega⟩
theorem sp_closes {h0 : pm_H} {d : Nat} (hh0 : HH h0) (hr1 : gn h0 77 9 ≤ gn h0 77 7) (hr2 : gn h0 77 7 ≤ gn h0 77 6) (hr3 : gn h0 77 8 = 0 ∨ gn h0 77 9 < gn h0 77 7) : Sp (d + 4) 228 h0 [.ref 77] (fun h' r => r = none ∧ RR h' ∧ fr_g BB h0 h' ∧ gn h0 77 9 ≤ gn h' 77 9 ∧ (gn h' 77 12 = 0 → gn h0 77 12 = 0 ∧ gn h0 77 9 < gn h' 77 9)) := by
  refine Sp_of aiX9_closes rfl rfl rfl ?_
  have L0 : pm_get (lv_args 0 [.ref 77]) 0 = some (.ref 77) := rfl
  generalize lv_args 0 [.ref 77] = lv at L0 ⊢
  have h5 := b500 hh0
  refine E_al rfl L0 ?_
  have b1 : gn h0 77 8 ≤ 4 := gn_hi hh0 rfl (by decide)
  refine E_gf rfl hh0 rfl (gi_gn hh0 rfl (by decide)) ?_
  refine E_ci 3 rfl ci3 ?_
  by_cases hb2 : (gn h0 77 8) = 3
  · refine E_icT rfl (decide_eq_true ((nJ_eq (by first | decide | with_reducible assumption | omega) (by first | decide | with_reducible assumption | omega)).mpr hb2)) ?_
    refine E_al rfl L0 ?_
    have b3 : gn h0 77 12 ≤ 3 := gn_hi hh0 rfl (by decide)
    refine E_gf rfl hh0 rfl (gi_gn hh0 rfl (by decide)) ?_
    by_cases hb4 : ¬ (gn h0 77 12) = 0
    · refine E_ifT rfl (decide_eq_true (fun q => hb4 ((nJ_eq0 (by first | decide | with_reducible assumption | omega)).mp q))) ?_
      exact E_ret rfl ⟨rfl, ⟨hh0, by omega, by omega, by omega⟩, (fr_rf BB h0), by omega, by omega⟩
    · refine E_ifF rfl (decide_eq_false (fun q => hb4 (fun z => q ((nJ_eq0 (by first | decide | with_reducible assumption | omega)).mpr z)))) ?_
      refine E_al rfl L0 ?_
      refine E_call rfl (Sp_le (by first | exact Nat.add_le_add_left (Nat.le_of_ble_eq_true rfl) _ | exact Nat.le_of_ble_eq_true rfl | omega) (sp_follows (d := 0) hh0 (by first | decide | with_reducible assumption | omega))) (chk77 hh0 rfl rfl (by show 0 ≤ 8; decide)) (fun h5 r5 => ?_)
      rintro ⟨e5, ⟨hh5, ra5, rb5, rc5⟩, fq5, mo5⟩
      rw [e5]
      have fr5 : fr_g BB h0 h5 := fr_trans (fr_rf BB h0) (fr_wk rfl fq5)
      have t5_0 : gn h5 77 6 = gn h0 77 6 := fr_gn fq5 rfl
      have t5_4 : gn h5 77 12 = gn h0 77 12 := fr_gn fq5 rfl
      show Ends _ _ (24, lv, [], h5, 0, 0) _
      exact E_ret rfl ⟨rfl, ⟨hh5, by omega, by omega, by omega⟩, fr5, by omega, by omega⟩
  · refine E_icF rfl (decide_eq_false (fun q => hb2 ((nJ_eq (by first | decide | with_reducible assumption | omega) (by first | decide | with_reducible assumption | omega)).mp q))) ?_
    refine E_al rfl L0 ?_
    refine E_ci 1 rfl ci1 ?_
    refine E_call rfl (Sp_le (by first | exact Nat.add_le_add_left (Nat.le_of_ble_eq_true rfl) _ | exact Nat.le_of_ble_eq_true rfl | omega) (sp_fails (d := 0) (k := 1) hh0 (by first | decide | with_reducible assumption | omega) (by first | decide | with_reducible assumption | omega))) (chk77 hh0 rfl rfl (by show 0 ≤ 8; decide)) (fun h6 r6 => ?_)
    rintro ⟨e6, hh6, fq6, mo6⟩
    rw [e6]
    have fr6 : fr_g BB h0 h6 := fr_trans (fr_rf BB h0) (fr_wk rfl fq6)
    have t6_0 : gn h6 77 6 = gn h0 77 6 := fr_gn fq6 rfl
    have t6_1 : gn h6 77 7 = gn h0 77 7 := fr_gn fq6 rfl
    have t6_2 : gn h6 77 8 = gn h0 77 8 := fr_gn fq6 rfl
    have t6_3 : gn h6 77 9 = gn h0 77 9 := fr_gn fq6 rfl
    show Ends _ _ (13, lv, [], h6, 0, 0) _
    refine E_al rfl L0 ?_
    have b7 : gn h6 77 12 ≤ 3 := gn_hi hh6 rfl (by decide)
    refine E_gf rfl hh6 rfl (gi_gn hh6 rfl (by decide)) ?_
    by_cases hb8 : ¬ (gn h6 77 12) = 0
    · refine E_ifT rfl (decide_eq_true (fun q => hb8 ((nJ_eq0 (by first | decide | with_reducible assumption | omega)).mp q))) ?_
      exact E_ret rfl ⟨rfl, ⟨hh6, by omega, by omega, by omega⟩, fr6, by omega, by omega⟩
    · refine E_ifF rfl (decide_eq_false (fun q => hb8 (fun z => q ((nJ_eq0 (by first | decide | with_reducible assumption | omega)).mpr z)))) ?_
      refine E_al rfl L0 ?_
      refine E_call rfl (Sp_le (by first | exact Nat.add_le_add_left (Nat.le_of_ble_eq_true rfl) _ | exact Nat.le_of_ble_eq_true rfl | omega) (sp_follows (d := 0) hh6 (by first | decide | with_reducible assumption | omega))) (chk77 hh6 rfl rfl (by show 0 ≤ 8; decide)) (fun h9 r9 => ?_)
      rintro ⟨e9, ⟨hh9, ra9, rb9, rc9⟩, fq9, mo9⟩
      rw [e9]
      have fr9 : fr_g BB h0 h9 := fr_trans fr6 (fr_wk rfl fq9)
      have t9_0 : gn h9 77 6 = gn h6 77 6 := fr_gn fq9 rfl
      have t9_4 : gn h9 77 12 = gn h6 77 12 := fr_gn fq9 rfl
      show Ends _ _ (24, lv, [], h9, 0, 0) _
      exact E_ret rfl ⟨rfl, ⟨hh9, by omega, by omega, by omega⟩, fr9, by omega, by omega⟩
theorem sp_begins {h0 : pm_H} {d : Nat} (hh0 : HH h0) : Sp (d + 4) 213 h0 [.ref 77] (fun h' r => r = none ∧ RR h' ∧ fr_g BB h0 h') := by
  refine Sp_of aiX9_begins rfl rfl rfl ?_
  have L0 : pm_get (lv_args 0 [.ref 77]) 0 = some (.ref 77) := rfl
  generalize lv_args 0 [.ref 77] = lv at L0 ⊢
  have h5 := b500 hh0
  refine E_al rfl L0 ?_
  refine E_ci 0 rfl ci0 ?_
  refine E_pf rfl hh0 rfl ?_
  have hh1 : HH (pt h0 77 12 (nJ 0)) := HH_ptn hh0 rfl (by first | decide | with_reducible assumption | omega) (by first | decide | with_reducible assumption | omega) (by first | decide | with_reducible assumption | omega)
  have fr1 : fr_g BB h0 (pt h0 77 12 (nJ 0)) := fr_ptr (l := 12) (u := 12) rfl (by first | decide | with_reducible assumption | omega) (by first | decide | with_reducible assumption | omega) (fr_rf BB h0)
  have t1_0 : gn (pt h0 77 12 (nJ 0)) 77 6 = gn h0 77 6 := gn_ne (by first | exact gxx rfl | omega)
  have t1_1 : gn (pt h0 77 12 (nJ 0)) 77 7 = gn h0 77 7 := gn_ne (by first | exact gxx rfl | omega)
  have t1_2 : gn (pt h0 77 12 (nJ 0)) 77 8 = gn h0 77 8 := gn_ne (by first | exact gxx rfl | omega)
  have t1_3 : gn (pt h0 77 12 (nJ 0)) 77 9 = gn h0 77 9 := gn_ne (by first | exact gxx rfl | omega)
  have t1_4 : gn (pt h0 77 12 (nJ 0)) 77 12 = 0 := gn_ptn hh0 rfl (by first | decide | with_reducible assumption | omega) (by first | decide | with_reducible assumption | omega) (by first | decide | with_reducible assumption | omega)
  generalize hz1 : (pt h0 77 12 (nJ 0)) = g1 at hh1 fr1 t1_0 t1_1 t1_2 t1_3 t1_4 ⊢
  refine E_al rfl L0 ?_
  refine E_c rfl ?_
  refine E_pf rfl hh1 rfl ?_
  have hh2 : HH (pt g1 77 13 (-1)) := HH_pt hh1 rfl (by decide) (by decide)
  have fr2 : fr_g BB h0 (pt g1 77 13 (-1)) := fr_ptr (l := 13) (u := 13) rfl (by first | decide | with_reducible assumption | omega) (by first | decide | with_reducible assumption | omega) fr1
  have t2_0 : gn (pt g1 77 13 (-1)) 77 6 = gn g1 77 6 := gn_ne (by first | exact gxx rfl | omega)
  have t2_1 : gn (pt g1 77 13 (-1)) 77 7 = gn g1 77 7 := gn_ne (by first | exact gxx rfl | omega)
  have t2_2 : gn (pt g1 77 13 (-1)) 77 8 = gn g1 77 8 := gn_ne (by first | exact gxx rfl | omega)
  have t2_3 : gn (pt g1 77 13 (-1)) 77 9 = gn g1 77 9 := gn_ne (by first | exact gxx rfl | omega)
  have t2_4 : gn (pt g1 77 13 (-1)) 77 12 = gn g1 77 12 := gn_ne (by first | exact gxx rfl | omega)
  generalize hz2 : (pt g1 77 13 (-1)) = g2 at hh2 fr2 t2_0 t2_1 t2_2 t2_3 t2_4 ⊢
  refine E_al rfl L0 ?_
  refine E_ci 0 rfl ci0 ?_
  refine E_pf rfl hh2 rfl ?_
  have hh3 : HH (pt g2 77 7 (nJ 0)) := HH_ptn hh2 rfl (by first | decide | with_reducible assumption | omega) (by first | decide | with_reducible assumption | omega) (by first | decide | with_reducible assumption | omega)
  have fr3 : fr_g BB h0 (pt g2 77 7 (nJ 0)) := fr_ptr (l := 7) (u := 7) rfl (by first | decide | with_reducible assumption | omega) (by first | decide | with_reducible assumption | omega) fr2
  have t3_0 : gn (pt g2 77 7 (nJ 0)) 77 6 = gn g2 77 6 := gn_ne (by first | exact gxx rfl | omega)
  have t3_1 : gn (pt g2 77 7 (nJ 0)) 77 7 = 0 := gn_ptn hh2 rfl (by first | decide | with_reducible assumption | omega) (by first | decide | with_reducible assumption | omega) (by first | decide | with_reducible assumption | omega)
  have t3_2 : gn (pt g2 77 7 (nJ 0)) 77 8 = gn g2 77 8 := gn_ne (by first | exact gxx rfl | omega)
  have t3_3 : gn (pt g2 77 7 (nJ 0)) 77 9 = gn g2 77 9 := gn_ne (by first | exact gxx rfl | omega)
  have t3_4 : gn (pt g2 77 7 (nJ 0)) 77 12 = gn g2 77 12 := gn_ne (by first | exact gxx rfl | omega)
  generalize hz3 : (pt g2 77 7 (nJ 0)) = g3 at hh3 fr3 t3_0 t3_1 t3_2 t3_3 t3_4 ⊢
  refine E_al rfl L0 ?_
  refine E_call rfl (Sp_le (by first | exact Nat.add_le_add_left (Nat.le_of_ble_eq_true rfl) _ | exact Nat.le_of_ble_eq_true rfl | omega) (sp_follows (d := 0) hh3 (by first | decide | with_reducible assumption | omega))) (chk77 hh3 rfl rfl (by show 0 ≤ 8; decide)) (fun h4 r4 => ?_)
  rintro ⟨e4, ⟨hh4, ra4, rb4, rc4⟩, fq4, mo4⟩
  rw [e4]
  have fr4 : fr_g BB h0 h4 := fr_trans fr3 (fr_wk rfl fq4)
  have t4_0 : gn h4 77 6 = gn g3 77 6 := fr_gn fq4 rfl
  have t4_4 : gn h4 77 12 = gn g3 77 12 := fr_gn fq4 rfl
  show Ends _ _ (19, lv, [], h4, 0, 0) _
  exact E_ret rfl ⟨rfl, ⟨hh4, by omega, by omega, by omega⟩, fr4⟩
noncomputable def OVM : List Rng := [(77, 6, 6), (77, 14, 15)]
theorem sp_isOver {h0 : pm_H} {d : Nat} (hh0 : HH h0) : Sp (d + 1) 275 h0 [.ref 77] (fun h' r => r = none ∧ HH h' ∧ fr_g OVM h0 h') := by
  refine Sp_of aiX9_isOver rfl rfl rfl ?_
  have L0 : pm_get (lv_args 0 [.ref 77]) 0 = some (.ref 77) := rfl
  generalize lv_args 0 [.ref 77] = lv at L0 ⊢
  have h5 := b500 hh0
  refine E_al rfl L0 ?_
  refine E_ci 0 rfl ci0 ?_
  refine E_pf rfl hh0 rfl ?_
  have hh1 : HH (pt h0 77 6 (nJ 0)) := HH_ptn hh0 rfl (by first | decide | with_reducible assumption | omega) (by first | decide | with_reducible assumption | omega) (by first | decide | with_reducible assumption | omega)
  have fr1 : fr_g OVM h0 (pt h0 77 6 (nJ 0)) := fr_ptr (l := 6) (u := 6) rfl (by first | decide | with_reducible assumption | omega) (by first | decide | with_reducible assumption | omega) (fr_rf OVM h0)
  refine E_al rfl L0 ?_
  refine E_al rfl L0 ?_
  have b2 : gn (pt h0 77 6 (nJ 0)) 77 12 ≤ 3 := gn_hi hh1 rfl (by decide)
  refine E_gf rfl hh1 rfl (gi_gn hh1 rfl (by decide)) ?_
  refine E_pf rfl hh1 rfl ?_
  have hh3 : HH (pt (pt h0 77 6 (nJ 0)) 77 14 (nJ ((gn (pt h0 77 6 (nJ 0)) 77 12)))) := HH_ptn hh1 rfl (by first | decide | with_reducible assumption | omega) (by first | decide | with_reducible assumption | omega) (by first | decide | with_reducible assumption | omega)
  have fr3 : fr_g OVM h0 (pt (pt h0 77 6 (nJ 0)) 77 14 (nJ ((gn (pt h0 77 6 (nJ 0)) 77 12)))) := fr_ptr (l := 14) (u := 14) rfl (by first | decide | with_reducible assumption | omega) (by first | decide | with_reducible assumption | omega) fr1
  refine E_al rfl L0 ?_
  refine E_al rfl L0 ?_
  have b4 : gn (pt (pt h0 77 6 (nJ 0)) 77 14 (nJ ((gn (pt h0 77 6 (nJ 0)) 77 12)))) 77 12 ≤ 3 := gn_hi hh3 rfl (by decide)
  refine E_gf rfl hh3 rfl (gi_gn hh3 rfl (by decide)) ?_
  by_cases hb5 : ¬ (gn (pt (pt h0 77 6 (nJ 0)) 77 14 (nJ ((gn (pt h0 77 6 (nJ 0)) 77 12)))) 77 12) = 0
  · refine E_ifT rfl (decide_eq_true (fun q => hb5 ((nJ_eq0 (by first | decide | with_reducible assumption | omega)).mp q))) ?_
    refine E_al rfl L0 ?_
    refine E_gf rfl hh3 rfl (rfl) ?_
    refine E_pf rfl hh3 rfl ?_
    have hh6 : HH (pt (pt (pt h0 77 6 (nJ 0)) 77 14 (nJ ((gn (pt h0 77 6 (nJ 0)) 77 12)))) 77 15 (gi (pt (pt h0 77 6 (nJ 0)) 77 14 (nJ ((gn (pt h0 77 6 (nJ 0)) 77 12)))) 77 13)) := HH_pt hh3 rfl (ld_gi hh3 rfl).2.1 (ld_gi hh3 rfl).2.2
    have fr6 : fr_g OVM h0 (pt (pt (pt h0 77 6 (nJ 0)) 77 14 (nJ ((gn (pt h0 77 6 (nJ 0)) 77 12)))) 77 15 (gi (pt (pt h0 77 6 (nJ 0)) 77 14 (nJ ((gn (pt h0 77 6 (nJ 0)) 77 12)))) 77 13)) := fr_ptr (l := 15) (u := 15) rfl (by first | decide | with_reducible assumption | omega) (by first | decide | with_reducible assumption | omega) fr3
    exact E_ret rfl ⟨rfl, hh6, fr6⟩
  · refine E_ifF rfl (decide_eq_false (fun q => hb5 (fun z => q ((nJ_eq0 (by first | decide | with_reducible assumption | omega)).mpr z)))) ?_
    refine E_c rfl ?_
    refine E_goto rfl ?_
    refine E_pf rfl hh3 rfl ?_
    have hh7 : HH (pt (pt (pt h0 77 6 (nJ 0)) 77 14 (nJ ((gn (pt h0 77 6 (nJ 0)) 77 12)))) 77 15 (-1)) := HH_pt hh3 rfl (by decide) (by decide)
    have fr7 : fr_g OVM h0 (pt (pt (pt h0 77 6 (nJ 0)) 77 14 (nJ ((gn (pt h0 77 6 (nJ 0)) 77 12)))) 77 15 (-1)) := fr_ptr (l := 15) (u := 15) rfl (by first | decide | with_reducible assumption | omega) (by first | decide | with_reducible assumption | omega) fr3
    exact E_ret rfl ⟨rfl, hh7, fr7⟩
end
section
/-! by hand: rows copied (written by gen_t15.py) -/
/-- acts of a row: what is traded for is a car -/
noncomputable def FAg (r : Nat) (h : pm_H) : Prop := ∀ i, i < 20 → ¬ gn h 87 (60 * r + 3 * i) = 0 → gn h 87 (60 * r + 3 * i + 2) ≤ 7
noncomputable def RV (h : pm_H) : Prop := (∀ r, r < 4 → RI r h) ∧ ∀ r, r < 5 → FAg r h
theorem RI_copy {a b : Nat} {h h' : pm_H} (hc : gn h 84 (6 * a + 3) ≤ 8) (hk : gn h 84 (6 * a + 5) ≤ 20) (h1 : ∀ k, k < 6 → gn h' 84 (6 * b + k) = gn h 84 (6 * a + k)) (h2 : ∀ k, k < 16 → gn h' 85 (16 * b + k) = gn h 85 (16 * a + k)) (h3 : ∀ k, k < 60 → gn h' 87 (60 * b + k) = gn h 87 (60 * a + k)) (R : RI a h) : RI b h' := by
  obtain ⟨r1, r2, r3⟩ := R
  have e3 := h1 3 (by first | decide | with_reducible assumption | omega)
  have e0 := h1 0 (by first | decide | with_reducible assumption | omega)
  have e5 := h1 5 (by first | decide | with_reducible assumption | omega)
  refine ⟨?_, fun c hc' => ?_, fun k hk' => ?_⟩
  · rw [e3]
    have : gn h' 84 (6 * b) = gn h 84 (6 * a) := e0
    rw [this]; exact r1
  · rw [e3] at hc'
    rw [h2 (2 * c) (by first | decide | with_reducible assumption | omega)]
    exact r2 c hc'
  · rw [e5] at hk'
    have q := r3 k hk'
    have f0 := h3 (3 * k) (by first | decide | with_reducible assumption | omega)
    have f1 := h3 (3 * k + 1) (by first | decide | with_reducible assumption | omega)
    have f2 := h3 (3 * k + 2) (by first | decide | with_reducible assumption | omega)
    rw [show 60 * b + 3 * k + 1 = 60 * b + (3 * k + 1) by omega, show 60 * b + 3 * k + 2 = 60 * b + (3 * k + 2) by omega, f0, f1, f2, e3]
    rw [show 60 * a + (3 * k + 1) = 60 * a + 3 * k + 1 by omega, show 60 * a + (3 * k + 2) = 60 * a + 3 * k + 2 by omega]
    exact q
theorem FAg_copy {a b : Nat} {h h' : pm_H} (h3 : ∀ k, k < 60 → gn h' 87 (60 * b + k) = gn h 87 (60 * a + k)) (F : FAg a h) : FAg b h' := by
  intro i hi
  have f0 := h3 (3 * i) (by first | decide | with_reducible assumption | omega)
  have f2 := h3 (3 * i + 2) (by first | decide | with_reducible assumption | omega)
  rw [show 60 * b + 3 * i + 2 = 60 * b + (3 * i + 2) by omega, f0, f2, show 60 * a + (3 * i + 2) = 60 * a + 3 * i + 2 by omega]
  exact F i hi
theorem row_b {h : pm_H} (hh : HH h) {r : Nat} (hr : r ≤ 4) : gn h 84 (6 * r + 3) ≤ 8 ∧ gn h 84 (6 * r + 5) ≤ 20 := by
  have h3 : bd 84 (6 * r + 3) = some (0, 8) := bd_pat (p := [(0, 8), (0, 3), (0, 10), (0, 8), (0, 8), (0, 20)]) rfl (by first | decide | with_reducible assumption | omega) (by show [(0, 8), (0, 3), (0, 10), (0, 8), (0, 8), (0, 20)][(6 * r + 3) % 6]? = _; rw [show (6 * r + 3) % 6 = 3 by omega]; rfl)
  have h5 : bd 84 (6 * r + 5) = some (0, 20) := bd_pat (p := [(0, 8), (0, 3), (0, 10), (0, 8), (0, 8), (0, 20)]) rfl (by first | decide | with_reducible assumption | omega) (by show [(0, 8), (0, 3), (0, 10), (0, 8), (0, 8), (0, 20)][(6 * r + 5) % 6]? = _; rw [show (6 * r + 5) % 6 = 5 by omega]; rfl)
  exact ⟨gn_hi hh h3 (by decide), gn_hi hh h5 (by decide)⟩
/-- rows that stay -/
theorem RV_hi {h h' : pm_H} (hh : HH h) (h1 : ∀ k, k < 24 → gn h' 84 k = gn h 84 k) (h2 : ∀ k, k < 64 → gn h' 85 k = gn h 85 k) (h3 : ∀ k, gn h' 87 k = gn h 87 k) (V : RV h) : RV h' :=
  ⟨fun r hr => RI_copy (row_b hh (by first | decide | with_reducible assumption | omega)).1 (row_b hh (by first | decide | with_reducible assumption | omega)).2 (fun k hk => h1 _ (by first | decide | with_reducible assumption | omega)) (fun k hk => h2 _ (by first | decide | with_reducible assumption | omega)) (fun k _ => h3 _) (V.1 r hr), fun r hr => FAg_copy (fun k _ => h3 _) (V.2 r hr)⟩
theorem bd_no {a k : Nat} (h : (bd a k).isSome = true) : ∃ q, bd a k = some q := by
  cases hb : bd a k with
  | none => rw [hb] at h; cases h
  | some q => exact ⟨q, rfl⟩
theorem bdc_83 : ∀ a b : Fin 5, ∀ k : Fin 1, bd 83 (1 * b.val + k.val) = bd 83 (1 * a.val + k.val) ∧ (bd 83 (1 * a.val + k.val)).isSome = true := by decide +kernel
theorem cr_loop83 {h0 : pm_H} {d a b : Nat} (hh0 : HH h0) (ha : a ≤ 4) (hb : b ≤ 4) (hab : a ≠ b) (j : Nat) : ∀ {h : pm_H} {k : Nat} (lv : List (Nat × Value)), k + j = 1 → HH h → fr_g [(83, 0, 4)] h0 h → (∀ k1, k1 < k → gi h 83 (1 * b + k1) = gi h0 83 (1 * a + k1)) → (∀ j, (j < 1 * b ∨ 1 * b + 1 ≤ j) → gi h 83 j = gi h0 83 j) → pm_get lv 0 = some (.ref 83) → pm_get lv 1 = some (.int (nJ 1)) → pm_get lv 2 = some (.int (nJ a)) → pm_get lv 3 = some (.int (nJ b)) → pm_get lv 4 = some (.int (nJ k)) → Ends (pm_at tX9_copyRow) (pm_Rt pm_P d) (3, lv, [], h, 0, 0) (fun h' r => r = none ∧ HH h' ∧ fr_g [(83, 0, 4)] h0 h' ∧ (∀ k, k < 1 → gi h' 83 (1 * b + k) = gi h0 83 (1 * a + k)) ∧ ∀ j, (j < 1 * b ∨ 1 * b + 1 ≤ j) → gi h' 83 j = gi h0 83 j) := by
  induction j with
  | zero =>
    intro h k lv hj hh hfr hc ho L0 L1 L2 L3 L4
    refine E_il rfl L4 ?_
    refine E_il rfl L1 ?_
    refine E_icT rfl (decide_eq_true ((nJ_le (by first | decide | with_reducible assumption | omega) (by first | decide | with_reducible assumption | omega)).mpr (by first | decide | with_reducible assumption | omega))) ?_
    exact E_ret rfl ⟨rfl, hh, hfr, fun k1 h1 => hc k1 (by first | decide | with_reducible assumption | omega), ho⟩
  | succ j ih =>
    intro h k lv hj hh hfr hc ho L0 L1 L2 L3 L4
    refine E_il rfl L4 ?_
    refine E_il rfl L1 ?_
    refine E_icF rfl (decide_eq_false (fun q => absurd ((nJ_le (by first | decide | with_reducible assumption | omega) (by first | decide | with_reducible assumption | omega)).mp q) (by first | decide | with_reducible assumption | omega))) ?_
    obtain ⟨q, hq⟩ := bd_no (bdc_83 ⟨a, by omega⟩ ⟨b, by omega⟩ ⟨k, by omega⟩).2
    have hq2 : bd 83 (1 * b + k) = some q := (bdc_83 ⟨a, by omega⟩ ⟨b, by omega⟩ ⟨k, by omega⟩).1.trans hq
    have hv := (ld_gi hh0 hq).2
    refine E_al rfl L0 ?_
    refine E_il rfl L1 ?_
    refine E_il rfl L3 ?_
    refine E_bin rfl (nJ_mul _ _) ?_
    refine E_il rfl L4 ?_
    refine E_bin rfl (nJ_add _ _) ?_
    refine E_al rfl L0 ?_
    refine E_il rfl L1 ?_
    refine E_il rfl L2 ?_
    refine E_bin rfl (nJ_mul _ _) ?_
    refine E_il rfl L4 ?_
    refine E_bin rfl (nJ_add _ _) ?_
    refine E_ial rfl hh rfl (by first | decide | with_reducible assumption | omega) (by decide) (show gi h 83 (((1 * a) + k)) = (gi h0 83 (1 * a + k)) from ho _ (by first | decide | with_reducible assumption | omega)) ?_
    refine E_ias rfl hh rfl (by first | decide | with_reducible assumption | omega) (by decide) ?_
    have hh1 : HH (pt h 83 (((1 * b) + k)) (gi h0 83 (1 * a + k))) := HH_pt hh hq2 hv.1 hv.2
    refine E_inc rfl L4 (nJ_inc _) (fun lv2 L2_4 kp2 => ?_)
    have L2_0 := kp2 0 _ (nbz rfl) rfl L0
    have L2_1 := kp2 1 _ (nbz rfl) rfl L1
    have L2_2 := kp2 2 _ (nbz rfl) rfl L2
    have L2_3 := kp2 3 _ (nbz rfl) rfl L3
    refine E_goto rfl ?_
    refine ih lv2 (by first | decide | with_reducible assumption | omega) hh1 (fr_ptr (l := 0) (u := 4) rfl (by first | decide | with_reducible assumption | omega) (by first | decide | with_reducible assumption | omega) hfr) (fun k1 h1 => ?_) (fun j1 h1 => ?_) L2_0 L2_1 L2_2 L2_3 L2_4
    · by_cases e : k1 = k
      · rw [e]; exact gi_pt hh hq2 hv.1 hv.2
      · rw [gi_ne (fun _ => by omega)]; exact hc k1 (by first | decide | with_reducible assumption | omega)
    · rw [gi_ne (fun _ => by omega)]; exact ho j1 h1
theorem sp_copyRow83 {h0 : pm_H} {d a b : Nat} (hh : HH h0) (ha : a ≤ 4) (hb : b ≤ 4) (hab : a ≠ b) : Sp (d + 1) 231 h0 [.ref 83, .int (nJ 1), .int (nJ a), .int (nJ b)] (fun h' r => r = none ∧ HH h' ∧ fr_g [(83, 0, 4)] h0 h' ∧ (∀ k, k < 1 → gi h' 83 (1 * b + k) = gi h0 83 (1 * a + k)) ∧ ∀ j, (j < 1 * b ∨ 1 * b + 1 ≤ j) → gi h' 83 j = gi h0 83 j) := by
  refine Sp_of aiX9_copyRow rfl rfl rfl ?_
  refine E_ci 0 rfl ci0 ?_
  refine E_is rfl (fun lv1 L1_4 kp1 => ?_)
  have L1_0 := kp1 0 _ (nbz rfl) rfl (show pm_get (lv_args 0 [.ref 83, .int (nJ 1), .int (nJ a), .int (nJ b)]) 0 = _ from rfl)
  have L1_1 := kp1 1 _ (nbz rfl) rfl (show pm_get (lv_args 0 [.ref 83, .int (nJ 1), .int (nJ a), .int (nJ b)]) 1 = _ from rfl)
  have L1_2 := kp1 2 _ (nbz rfl) rfl (show pm_get (lv_args 0 [.ref 83, .int (nJ 1), .int (nJ a), .int (nJ b)]) 2 = _ from rfl)
  have L1_3 := kp1 3 _ (nbz rfl) rfl (show pm_get (lv_args 0 [.ref 83, .int (nJ 1), .int (nJ a), .int (nJ b)]) 3 = _ from rfl)
  exact cr_loop83 hh ha hb hab 1 (k := 0) lv1 (by first | decide | with_reducible assumption | omega) hh (fr_rf _ _) (fun k1 h1 => absurd h1 (Nat.not_lt_zero _)) (fun _ _ => rfl) L1_0 L1_1 L1_2 L1_3 L1_4
theorem bdc_84 : ∀ a b : Fin 5, ∀ k : Fin 6, bd 84 (6 * b.val + k.val) = bd 84 (6 * a.val + k.val) ∧ (bd 84 (6 * a.val + k.val)).isSome = true := by decide +kernel
theorem cr_loop84 {h0 : pm_H} {d a b : Nat} (hh0 : HH h0) (ha : a ≤ 4) (hb : b ≤ 4) (hab : a ≠ b) (j : Nat) : ∀ {h : pm_H} {k : Nat} (lv : List (Nat × Value)), k + j = 6 → HH h → fr_g [(84, 0, 29)] h0 h → (∀ k1, k1 < k → gi h 84 (6 * b + k1) = gi h0 84 (6 * a + k1)) → (∀ j, (j < 6 * b ∨ 6 * b + 6 ≤ j) → gi h 84 j = gi h0 84 j) → pm_get lv 0 = some (.ref 84) → pm_get lv 1 = some (.int (nJ 6)) → pm_get lv 2 = some (.int (nJ a)) → pm_get lv 3 = some (.int (nJ b)) → pm_get lv 4 = some (.int (nJ k)) → Ends (pm_at tX9_copyRow) (pm_Rt pm_P d) (3, lv, [], h, 0, 0) (fun h' r => r = none ∧ HH h' ∧ fr_g [(84, 0, 29)] h0 h' ∧ (∀ k, k < 6 → gi h' 84 (6 * b + k) = gi h0 84 (6 * a + k)) ∧ ∀ j, (j < 6 * b ∨ 6 * b + 6 ≤ j) → gi h' 84 j = gi h0 84 j) := by
  induction j with
  | zero =>
    intro h k lv hj hh hfr hc ho L0 L1 L2 L3 L4
    refine E_il rfl L4 ?_
    refine E_il rfl L1 ?_
    refine E_icT rfl (decide_eq_true ((nJ_le (by first | decide | with_reducible assumption | omega) (by first | decide | with_reducible assumption | omega)).mpr (by first | decide | with_reducible assumption | omega))) ?_
    exact E_ret rfl ⟨rfl, hh, hfr, fun k1 h1 => hc k1 (by first | decide | with_reducible assumption | omega), ho⟩
  | succ j ih =>
    intro h k lv hj hh hfr hc ho L0 L1 L2 L3 L4
    refine E_il rfl L4 ?_
    refine E_il rfl L1 ?_
    refine E_icF rfl (decide_eq_false (fun q => absurd ((nJ_le (by first | decide | with_reducible assumption | omega) (by first | decide | with_reducible assumption | omega)).mp q) (by first | decide | with_reducible assumption | omega))) ?_
    obtain ⟨q, hq⟩ := bd_no (bdc_84 ⟨a, by omega⟩ ⟨b, by omega⟩ ⟨k, by omega⟩).2
    have hq2 : bd 84 (6 * b + k) = some q := (bdc_84 ⟨a, by omega⟩ ⟨b, by omega⟩ ⟨k, by omega⟩).1.trans hq
    have hv := (ld_gi hh0 hq).2
    refine E_al rfl L0 ?_
    refine E_il rfl L1 ?_
    refine E_il rfl L3 ?_
    refine E_bin rfl (nJ_mul _ _) ?_
    refine E_il rfl L4 ?_
    refine E_bin rfl (nJ_add _ _) ?_
    refine E_al rfl L0 ?_
    refine E_il rfl L1 ?_
    refine E_il rfl L2 ?_
    refine E_bin rfl (nJ_mul _ _) ?_
    refine E_il rfl L4 ?_
    refine E_bin rfl (nJ_add _ _) ?_
    refine E_ial rfl hh rfl (by first | decide | with_reducible assumption | omega) (by decide) (show gi h 84 (((6 * a) + k)) = (gi h0 84 (6 * a + k)) from ho _ (by first | decide | with_reducible assumption | omega)) ?_
    refine E_ias rfl hh rfl (by first | decide | with_reducible assumption | omega) (by decide) ?_
    have hh1 : HH (pt h 84 (((6 * b) + k)) (gi h0 84 (6 * a + k))) := HH_pt hh hq2 hv.1 hv.2
    refine E_inc rfl L4 (nJ_inc _) (fun lv2 L2_4 kp2 => ?_)
    have L2_0 := kp2 0 _ (nbz rfl) rfl L0
    have L2_1 := kp2 1 _ (nbz rfl) rfl L1
    have L2_2 := kp2 2 _ (nbz rfl) rfl L2
    have L2_3 := kp2 3 _ (nbz rfl) rfl L3
    refine E_goto rfl ?_
    refine ih lv2 (by first | decide | with_reducible assumption | omega) hh1 (fr_ptr (l := 0) (u := 29) rfl (by first | decide | with_reducible assumption | omega) (by first | decide | with_reducible assumption | omega) hfr) (fun k1 h1 => ?_) (fun j1 h1 => ?_) L2_0 L2_1 L2_2 L2_3 L2_4
    · by_cases e : k1 = k
      · rw [e]; exact gi_pt hh hq2 hv.1 hv.2
      · rw [gi_ne (fun _ => by omega)]; exact hc k1 (by first | decide | with_reducible assumption | omega)
    · rw [gi_ne (fun _ => by omega)]; exact ho j1 h1
theorem sp_copyRow84 {h0 : pm_H} {d a b : Nat} (hh : HH h0) (ha : a ≤ 4) (hb : b ≤ 4) (hab : a ≠ b) : Sp (d + 1) 231 h0 [.ref 84, .int (nJ 6), .int (nJ a), .int (nJ b)] (fun h' r => r = none ∧ HH h' ∧ fr_g [(84, 0, 29)] h0 h' ∧ (∀ k, k < 6 → gi h' 84 (6 * b + k) = gi h0 84 (6 * a + k)) ∧ ∀ j, (j < 6 * b ∨ 6 * b + 6 ≤ j) → gi h' 84 j = gi h0 84 j) := by
  refine Sp_of aiX9_copyRow rfl rfl rfl ?_
  refine E_ci 0 rfl ci0 ?_
  refine E_is rfl (fun lv1 L1_4 kp1 => ?_)
  have L1_0 := kp1 0 _ (nbz rfl) rfl (show pm_get (lv_args 0 [.ref 84, .int (nJ 6), .int (nJ a), .int (nJ b)]) 0 = _ from rfl)
  have L1_1 := kp1 1 _ (nbz rfl) rfl (show pm_get (lv_args 0 [.ref 84, .int (nJ 6), .int (nJ a), .int (nJ b)]) 1 = _ from rfl)
  have L1_2 := kp1 2 _ (nbz rfl) rfl (show pm_get (lv_args 0 [.ref 84, .int (nJ 6), .int (nJ a), .int (nJ b)]) 2 = _ from rfl)
  have L1_3 := kp1 3 _ (nbz rfl) rfl (show pm_get (lv_args 0 [.ref 84, .int (nJ 6), .int (nJ a), .int (nJ b)]) 3 = _ from rfl)
  exact cr_loop84 hh ha hb hab 6 (k := 0) lv1 (by first | decide | with_reducible assumption | omega) hh (fr_rf _ _) (fun k1 h1 => absurd h1 (Nat.not_lt_zero _)) (fun _ _ => rfl) L1_0 L1_1 L1_2 L1_3 L1_4
theorem bdc_85 : ∀ a b : Fin 5, ∀ k : Fin 16, bd 85 (16 * b.val + k.val) = bd 85 (16 * a.val + k.val) ∧ (bd 85 (16 * a.val + k.val)).isSome = true := by decide +kernel
theorem cr_loop85 {h0 : pm_H} {d a b : Nat} (hh0 : HH h0) (ha : a ≤ 4) (hb : b ≤ 4) (hab : a ≠ b) (j : Nat) : ∀ {h : pm_H} {k : Nat} (lv : List (Nat × Value)), k + j = 16 → HH h → fr_g [(85, 0, 79)] h0 h → (∀ k1, k1 < k → gi h 85 (16 * b + k1) = gi h0 85 (16 * a + k1)) → (∀ j, (j < 16 * b ∨ 16 * b + 16 ≤ j) → gi h 85 j = gi h0 85 j) → pm_get lv 0 = some (.ref 85) → pm_get lv 1 = some (.int (nJ 16)) → pm_get lv 2 = some (.int (nJ a)) → pm_get lv 3 = some (.int (nJ b)) → pm_get lv 4 = some (.int (nJ k)) → Ends (pm_at tX9_copyRow) (pm_Rt pm_P d) (3, lv, [], h, 0, 0) (fun h' r => r = none ∧ HH h' ∧ fr_g [(85, 0, 79)] h0 h' ∧ (∀ k, k < 16 → gi h' 85 (16 * b + k) = gi h0 85 (16 * a + k)) ∧ ∀ j, (j < 16 * b ∨ 16 * b + 16 ≤ j) → gi h' 85 j = gi h0 85 j) := by
  induction j with
  | zero =>
    intro h k lv hj hh hfr hc ho L0 L1 L2 L3 L4
    refine E_il rfl L4 ?_
    refine E_il rfl L1 ?_
    refine E_icT rfl (decide_eq_true ((nJ_le (by first | decide | with_reducible assumption | omega) (by first | decide | with_reducible assumption | omega)).mpr (by first | decide | with_reducible assumption | omega))) ?_
    exact E_ret rfl ⟨rfl, hh, hfr, fun k1 h1 => hc k1 (by first | decide | with_reducible assumption | omega), ho⟩
  | succ j ih =>
    intro h k lv hj hh hfr hc ho L0 L1 L2 L3 L4
    refine E_il rfl L4 ?_
    refine E_il rfl L1 ?_
    refine E_icF rfl (decide_eq_false (fun q => absurd ((nJ_le (by first | decide | with_reducible assumption | omega) (by first | decide | with_reducible assumption | omega)).mp q) (by first | decide | with_reducible assumption | omega))) ?_
    obtain ⟨q, hq⟩ := bd_no (bdc_85 ⟨a, by omega⟩ ⟨b, by omega⟩ ⟨k, by omega⟩).2
    have hq2 : bd 85 (16 * b + k) = some q := (bdc_85 ⟨a, by omega⟩ ⟨b, by omega⟩ ⟨k, by omega⟩).1.trans hq
    have hv := (ld_gi hh0 hq).2
    refine E_al rfl L0 ?_
    refine E_il rfl L1 ?_
    refine E_il rfl L3 ?_
    refine E_bin rfl (nJ_mul _ _) ?_
    refine E_il rfl L4 ?_
    refine E_bin rfl (nJ_add _ _) ?_
    refine E_al rfl L0 ?_
    refine E_il rfl L1 ?_
    refine E_il rfl L2 ?_
    refine E_bin rfl (nJ_mul _ _) ?_
    refine E_il rfl L4 ?_
    refine E_bin rfl (nJ_add _ _) ?_
    refine E_ial rfl hh rfl (by first | decide | with_reducible assumption | omega) (by decide) (show gi h 85 (((16 * a) + k)) = (gi h0 85 (16 * a + k)) from ho _ (by first | decide | with_reducible assumption | omega)) ?_
    refine E_ias rfl hh rfl (by first | decide | with_reducible assumption | omega) (by decide) ?_
    have hh1 : HH (pt h 85 (((16 * b) + k)) (gi h0 85 (16 * a + k))) := HH_pt hh hq2 hv.1 hv.2
    refine E_inc rfl L4 (nJ_inc _) (fun lv2 L2_4 kp2 => ?_)
    have L2_0 := kp2 0 _ (nbz rfl) rfl L0
    have L2_1 := kp2 1 _ (nbz rfl) rfl L1
    have L2_2 := kp2 2 _ (nbz rfl) rfl L2
    have L2_3 := kp2 3 _ (nbz rfl) rfl L3
    refine E_goto rfl ?_
    refine ih lv2 (by first | decide | with_reducible assumption | omega) hh1 (fr_ptr (l := 0) (u := 79) rfl (by first | decide | with_reducible assumption | omega) (by first | decide | with_reducible assumption | omega) hfr) (fun k1 h1 => ?_) (fun j1 h1 => ?_) L2_0 L2_1 L2_2 L2_3 L2_4
    · by_cases e : k1 = k
      · rw [e]; exact gi_pt hh hq2 hv.1 hv.2
      · rw [gi_ne (fun _ => by omega)]; exact hc k1 (by first | decide | with_reducible assumption | omega)
    · rw [gi_ne (fun _ => by omega)]; exact ho j1 h1
theorem sp_copyRow85 {h0 : pm_H} {d a b : Nat} (hh : HH h0) (ha : a ≤ 4) (hb : b ≤ 4) (hab : a ≠ b) : Sp (d + 1) 231 h0 [.ref 85, .int (nJ 16), .int (nJ a), .int (nJ b)] (fun h' r => r = none ∧ HH h' ∧ fr_g [(85, 0, 79)] h0 h' ∧ (∀ k, k < 16 → gi h' 85 (16 * b + k) = gi h0 85 (16 * a + k)) ∧ ∀ j, (j < 16 * b ∨ 16 * b + 16 ≤ j) → gi h' 85 j = gi h0 85 j) := by
  refine Sp_of aiX9_copyRow rfl rfl rfl ?_
  refine E_ci 0 rfl ci0 ?_
  refine E_is rfl (fun lv1 L1_4 kp1 => ?_)
  have L1_0 := kp1 0 _ (nbz rfl) rfl (show pm_get (lv_args 0 [.ref 85, .int (nJ 16), .int (nJ a), .int (nJ b)]) 0 = _ from rfl)
  have L1_1 := kp1 1 _ (nbz rfl) rfl (show pm_get (lv_args 0 [.ref 85, .int (nJ 16), .int (nJ a), .int (nJ b)]) 1 = _ from rfl)
  have L1_2 := kp1 2 _ (nbz rfl) rfl (show pm_get (lv_args 0 [.ref 85, .int (nJ 16), .int (nJ a), .int (nJ b)]) 2 = _ from rfl)
  have L1_3 := kp1 3 _ (nbz rfl) rfl (show pm_get (lv_args 0 [.ref 85, .int (nJ 16), .int (nJ a), .int (nJ b)]) 3 = _ from rfl)
  exact cr_loop85 hh ha hb hab 16 (k := 0) lv1 (by first | decide | with_reducible assumption | omega) hh (fr_rf _ _) (fun k1 h1 => absurd h1 (Nat.not_lt_zero _)) (fun _ _ => rfl) L1_0 L1_1 L1_2 L1_3 L1_4
theorem bdc_86 : ∀ a b : Fin 5, ∀ k : Fin 16, bd 86 (16 * b.val + k.val) = bd 86 (16 * a.val + k.val) ∧ (bd 86 (16 * a.val + k.val)).isSome = true := by decide +kernel
theorem cr_loop86 {h0 : pm_H} {d a b : Nat} (hh0 : HH h0) (ha : a ≤ 4) (hb : b ≤ 4) (hab : a ≠ b) (j : Nat) : ∀ {h : pm_H} {k : Nat} (lv : List (Nat × Value)), k + j = 16 → HH h → fr_g [(86, 0, 79)] h0 h → (∀ k1, k1 < k → gi h 86 (16 * b + k1) = gi h0 86 (16 * a + k1)) → (∀ j, (j < 16 * b ∨ 16 * b + 16 ≤ j) → gi h 86 j = gi h0 86 j) → pm_get lv 0 = some (.ref 86) → pm_get lv 1 = some (.int (nJ 16)) → pm_get lv 2 = some (.int (nJ a)) → pm_get lv 3 = some (.int (nJ b)) → pm_get lv 4 = some (.int (nJ k)) → Ends (pm_at tX9_copyRow) (pm_Rt pm_P d) (3, lv, [], h, 0, 0) (fun h' r => r = none ∧ HH h' ∧ fr_g [(86, 0, 79)] h0 h' ∧ (∀ k, k < 16 → gi h' 86 (16 * b + k) = gi h0 86 (16 * a + k)) ∧ ∀ j, (j < 16 * b ∨ 16 * b + 16 ≤ j) → gi h' 86 j = gi h0 86 j) := by
  induction j with
  | zero =>
    intro h k lv hj hh hfr hc ho L0 L1 L2 L3 L4
    refine E_il rfl L4 ?_
    refine E_il rfl L1 ?_
    refine E_icT rfl (decide_eq_true ((nJ_le (by first | decide | with_reducible assumption | omega) (by first | decide | with_reducible assumption | omega)).mpr (by first | decide | with_reducible assumption | omega))) ?_
    exact E_ret rfl ⟨rfl, hh, hfr, fun k1 h1 => hc k1 (by first | decide | with_reducible assumption | omega), ho⟩
  | succ j ih =>
    intro h k lv hj hh hfr hc ho L0 L1 L2 L3 L4
    refine E_il rfl L4 ?_
    refine E_il rfl L1 ?_
    refine E_icF rfl (decide_eq_false (fun q => absurd ((nJ_le (by first | decide | with_reducible assumption | omega) (by first | decide | with_reducible assumption | omega)).mp q) (by first | decide | with_reducible assumption | omega))) ?_
    obtain ⟨q, hq⟩ := bd_no (bdc_86 ⟨a, by omega⟩ ⟨b, by omega⟩ ⟨k, by omega⟩).2
    have hq2 : bd 86 (16 * b + k) = some q := (bdc_86 ⟨a, by omega⟩ ⟨b, by omega⟩ ⟨k, by omega⟩).1.trans hq
    have hv := (ld_gi hh0 hq).2
    refine E_al rfl L0 ?_
    refine E_il rfl L1 ?_
    refine E_il rfl L3 ?_
    refine E_bin rfl (nJ_mul _ _) ?_
    refine E_il rfl L4 ?_
    refine E_bin rfl (nJ_add _ _) ?_
    refine E_al rfl L0 ?_
    refine E_il rfl L1 ?_
    refine E_il rfl L2 ?_
    refine E_bin rfl (nJ_mul _ _) ?_
    refine E_il rfl L4 ?_
    refine E_bin rfl (nJ_add _ _) ?_
    refine E_ial rfl hh rfl (by first | decide | with_reducible assumption | omega) (by decide) (show gi h 86 (((16 * a) + k)) = (gi h0 86 (16 * a + k)) from ho _ (by first | decide | with_reducible assumption | omega)) ?_
    refine E_ias rfl hh rfl (by first | decide | with_reducible assumption | omega) (by decide) ?_
    have hh1 : HH (pt h 86 (((16 * b) + k)) (gi h0 86 (16 * a + k))) := HH_pt hh hq2 hv.1 hv.2
    refine E_inc rfl L4 (nJ_inc _) (fun lv2 L2_4 kp2 => ?_)
    have L2_0 := kp2 0 _ (nbz rfl) rfl L0
    have L2_1 := kp2 1 _ (nbz rfl) rfl L1
    have L2_2 := kp2 2 _ (nbz rfl) rfl L2
    have L2_3 := kp2 3 _ (nbz rfl) rfl L3
    refine E_goto rfl ?_
    refine ih lv2 (by first | decide | with_reducible assumption | omega) hh1 (fr_ptr (l := 0) (u := 79) rfl (by first | decide | with_reducible assumption | omega) (by first | decide | with_reducible assumption | omega) hfr) (fun k1 h1 => ?_) (fun j1 h1 => ?_) L2_0 L2_1 L2_2 L2_3 L2_4
    · by_cases e : k1 = k
      · rw [e]; exact gi_pt hh hq2 hv.1 hv.2
      · rw [gi_ne (fun _ => by omega)]; exact hc k1 (by first | decide | with_reducible assumption | omega)
    · rw [gi_ne (fun _ => by omega)]; exact ho j1 h1
theorem sp_copyRow86 {h0 : pm_H} {d a b : Nat} (hh : HH h0) (ha : a ≤ 4) (hb : b ≤ 4) (hab : a ≠ b) : Sp (d + 1) 231 h0 [.ref 86, .int (nJ 16), .int (nJ a), .int (nJ b)] (fun h' r => r = none ∧ HH h' ∧ fr_g [(86, 0, 79)] h0 h' ∧ (∀ k, k < 16 → gi h' 86 (16 * b + k) = gi h0 86 (16 * a + k)) ∧ ∀ j, (j < 16 * b ∨ 16 * b + 16 ≤ j) → gi h' 86 j = gi h0 86 j) := by
  refine Sp_of aiX9_copyRow rfl rfl rfl ?_
  refine E_ci 0 rfl ci0 ?_
  refine E_is rfl (fun lv1 L1_4 kp1 => ?_)
  have L1_0 := kp1 0 _ (nbz rfl) rfl (show pm_get (lv_args 0 [.ref 86, .int (nJ 16), .int (nJ a), .int (nJ b)]) 0 = _ from rfl)
  have L1_1 := kp1 1 _ (nbz rfl) rfl (show pm_get (lv_args 0 [.ref 86, .int (nJ 16), .int (nJ a), .int (nJ b)]) 1 = _ from rfl)
  have L1_2 := kp1 2 _ (nbz rfl) rfl (show pm_get (lv_args 0 [.ref 86, .int (nJ 16), .int (nJ a), .int (nJ b)]) 2 = _ from rfl)
  have L1_3 := kp1 3 _ (nbz rfl) rfl (show pm_get (lv_args 0 [.ref 86, .int (nJ 16), .int (nJ a), .int (nJ b)]) 3 = _ from rfl)
  exact cr_loop86 hh ha hb hab 16 (k := 0) lv1 (by first | decide | with_reducible assumption | omega) hh (fr_rf _ _) (fun k1 h1 => absurd h1 (Nat.not_lt_zero _)) (fun _ _ => rfl) L1_0 L1_1 L1_2 L1_3 L1_4
theorem bdc_87 : ∀ a b : Fin 5, ∀ k : Fin 60, bd 87 (60 * b.val + k.val) = bd 87 (60 * a.val + k.val) ∧ (bd 87 (60 * a.val + k.val)).isSome = true := by decide +kernel
theorem cr_loop87 {h0 : pm_H} {d a b : Nat} (hh0 : HH h0) (ha : a ≤ 4) (hb : b ≤ 4) (hab : a ≠ b) (j : Nat) : ∀ {h : pm_H} {k : Nat} (lv : List (Nat × Value)), k + j = 60 → HH h → fr_g [(87, 0, 299)] h0 h → (∀ k1, k1 < k → gi h 87 (60 * b + k1) = gi h0 87 (60 * a + k1)) → (∀ j, (j < 60 * b ∨ 60 * b + 60 ≤ j) → gi h 87 j = gi h0 87 j) → pm_get lv 0 = some (.ref 87) → pm_get lv 1 = some (.int (nJ 60)) → pm_get lv 2 = some (.int (nJ a)) → pm_get lv 3 = some (.int (nJ b)) → pm_get lv 4 = some (.int (nJ k)) → Ends (pm_at tX9_copyRow) (pm_Rt pm_P d) (3, lv, [], h, 0, 0) (fun h' r => r = none ∧ HH h' ∧ fr_g [(87, 0, 299)] h0 h' ∧ (∀ k, k < 60 → gi h' 87 (60 * b + k) = gi h0 87 (60 * a + k)) ∧ ∀ j, (j < 60 * b ∨ 60 * b + 60 ≤ j) → gi h' 87 j = gi h0 87 j) := by
  induction j with
  | zero =>
    intro h k lv hj hh hfr hc ho L0 L1 L2 L3 L4
    refine E_il rfl L4 ?_
    refine E_il rfl L1 ?_
    refine E_icT rfl (decide_eq_true ((nJ_le (by first | decide | with_reducible assumption | omega) (by first | decide | with_reducible assumption | omega)).mpr (by first | decide | with_reducible assumption | omega))) ?_
    exact E_ret rfl ⟨rfl, hh, hfr, fun k1 h1 => hc k1 (by first | decide | with_reducible assumption | omega), ho⟩
  | succ j ih =>
    intro h k lv hj hh hfr hc ho L0 L1 L2 L3 L4
    refine E_il rfl L4 ?_
    refine E_il rfl L1 ?_
    refine E_icF rfl (decide_eq_false (fun q => absurd ((nJ_le (by first | decide | with_reducible assumption | omega) (by first | decide | with_reducible assumption | omega)).mp q) (by first | decide | with_reducible assumption | omega))) ?_
    obtain ⟨q, hq⟩ := bd_no (bdc_87 ⟨a, by omega⟩ ⟨b, by omega⟩ ⟨k, by omega⟩).2
    have hq2 : bd 87 (60 * b + k) = some q := (bdc_87 ⟨a, by omega⟩ ⟨b, by omega⟩ ⟨k, by omega⟩).1.trans hq
    have hv := (ld_gi hh0 hq).2
    refine E_al rfl L0 ?_
    refine E_il rfl L1 ?_
    refine E_il rfl L3 ?_
    refine E_bin rfl (nJ_mul _ _) ?_
    refine E_il rfl L4 ?_
    refine E_bin rfl (nJ_add _ _) ?_
    refine E_al rfl L0 ?_
    refine E_il rfl L1 ?_
    refine E_il rfl L2 ?_
    refine E_bin rfl (nJ_mul _ _) ?_
    refine E_il rfl L4 ?_
    refine E_bin rfl (nJ_add _ _) ?_
    refine E_ial rfl hh rfl (by first | decide | with_reducible assumption | omega) (by decide) (show gi h 87 (((60 * a) + k)) = (gi h0 87 (60 * a + k)) from ho _ (by first | decide | with_reducible assumption | omega)) ?_
    refine E_ias rfl hh rfl (by first | decide | with_reducible assumption | omega) (by decide) ?_
    have hh1 : HH (pt h 87 (((60 * b) + k)) (gi h0 87 (60 * a + k))) := HH_pt hh hq2 hv.1 hv.2
    refine E_inc rfl L4 (nJ_inc _) (fun lv2 L2_4 kp2 => ?_)
    have L2_0 := kp2 0 _ (nbz rfl) rfl L0
    have L2_1 := kp2 1 _ (nbz rfl) rfl L1
    have L2_2 := kp2 2 _ (nbz rfl) rfl L2
    have L2_3 := kp2 3 _ (nbz rfl) rfl L3
    refine E_goto rfl ?_
    refine ih lv2 (by first | decide | with_reducible assumption | omega) hh1 (fr_ptr (l := 0) (u := 299) rfl (by first | decide | with_reducible assumption | omega) (by first | decide | with_reducible assumption | omega) hfr) (fun k1 h1 => ?_) (fun j1 h1 => ?_) L2_0 L2_1 L2_2 L2_3 L2_4
    · by_cases e : k1 = k
      · rw [e]; exact gi_pt hh hq2 hv.1 hv.2
      · rw [gi_ne (fun _ => by omega)]; exact hc k1 (by first | decide | with_reducible assumption | omega)
    · rw [gi_ne (fun _ => by omega)]; exact ho j1 h1
theorem sp_copyRow87 {h0 : pm_H} {d a b : Nat} (hh : HH h0) (ha : a ≤ 4) (hb : b ≤ 4) (hab : a ≠ b) : Sp (d + 1) 231 h0 [.ref 87, .int (nJ 60), .int (nJ a), .int (nJ b)] (fun h' r => r = none ∧ HH h' ∧ fr_g [(87, 0, 299)] h0 h' ∧ (∀ k, k < 60 → gi h' 87 (60 * b + k) = gi h0 87 (60 * a + k)) ∧ ∀ j, (j < 60 * b ∨ 60 * b + 60 ≤ j) → gi h' 87 j = gi h0 87 j) := by
  refine Sp_of aiX9_copyRow rfl rfl rfl ?_
  refine E_ci 0 rfl ci0 ?_
  refine E_is rfl (fun lv1 L1_4 kp1 => ?_)
  have L1_0 := kp1 0 _ (nbz rfl) rfl (show pm_get (lv_args 0 [.ref 87, .int (nJ 60), .int (nJ a), .int (nJ b)]) 0 = _ from rfl)
  have L1_1 := kp1 1 _ (nbz rfl) rfl (show pm_get (lv_args 0 [.ref 87, .int (nJ 60), .int (nJ a), .int (nJ b)]) 1 = _ from rfl)
  have L1_2 := kp1 2 _ (nbz rfl) rfl (show pm_get (lv_args 0 [.ref 87, .int (nJ 60), .int (nJ a), .int (nJ b)]) 2 = _ from rfl)
  have L1_3 := kp1 3 _ (nbz rfl) rfl (show pm_get (lv_args 0 [.ref 87, .int (nJ 60), .int (nJ a), .int (nJ b)]) 3 = _ from rfl)
  exact cr_loop87 hh ha hb hab 60 (k := 0) lv1 (by first | decide | with_reducible assumption | omega) hh (fr_rf _ _) (fun k1 h1 => absurd h1 (Nat.not_lt_zero _)) (fun _ _ => rfl) L1_0 L1_1 L1_2 L1_3 L1_4
noncomputable def VC : List Rng := [(83, 0, 4), (84, 0, 29), (85, 0, 79), (86, 0, 79), (87, 0, 299)]
theorem gn_gi {h h' : pm_H} {a k j : Nat} (e : gi h' a k = gi h a j) : gn h' a k = gn h a j := by unfold gn; rw [e]
noncomputable def KQ (a b : Nat) (h0 h' : pm_H) (r : Option Value) : Prop := r = none ∧ HH h' ∧ fr_g VC h0 h' ∧ (RI a h0 → RI b h') ∧ (FAg a h0 → FAg b h') ∧ (∀ r, r ≤ 4 → r ≠ b → RI r h0 → RI r h') ∧ ∀ r, r ≤ 4 → r ≠ b → FAg r h0 → FAg r h'
theorem sp_copyStreet {h0 : pm_H} {d a b : Nat} (hh0 : HH h0) (ha : a ≤ 4) (hb : b ≤ 4) (hab : a ≠ b) : Sp (d + 2) 232 h0 [.ref 77, .int (nJ a), .int (nJ b)] (KQ a b h0) := by
  refine Sp_of aiX9_copyStreet rfl rfl rfl ?_
  refine E_al rfl (show pm_get (lv_args 0 [.ref 77, .int (nJ a), .int (nJ b)]) 0 = _ from rfl) ?_
  refine E_gr rfl hh0 (q := 83) rfl ?_
  refine E_ci 1 rfl ci1 ?_
  refine E_il rfl (show pm_get (lv_args 0 [.ref 77, .int (nJ a), .int (nJ b)]) 1 = _ from rfl) ?_
  refine E_il rfl (show pm_get (lv_args 0 [.ref 77, .int (nJ a), .int (nJ b)]) 2 = _ from rfl) ?_
  refine E_call rfl (Sp_le (by first | exact Nat.add_le_add_left (Nat.le_of_ble_eq_true rfl) _ | exact Nat.le_of_ble_eq_true rfl | omega) (sp_copyRow83 (d := 0) hh0 ha hb hab)) (chkS rfl (by show 0 ≤ 8; decide)) (fun h1 r1 => ?_)
  rintro ⟨e1, hh1, fq1, cq1, oq1⟩
  rw [e1]
  have fr1 : fr_g VC h0 h1 := fr_trans (fr_rf VC h0) (fr_wk rfl fq1)
  show Ends _ _ (10, (lv_args 0 [.ref 77, .int (nJ a), .int (nJ b)]), [], h1, 0, 0) _
  refine E_al rfl (show pm_get (lv_args 0 [.ref 77, .int (nJ a), .int (nJ b)]) 0 = _ from rfl) ?_
  refine E_gr rfl hh1 (q := 84) rfl ?_
  refine E_ci 6 rfl ci6 ?_
  refine E_il rfl (show pm_get (lv_args 0 [.ref 77, .int (nJ a), .int (nJ b)]) 1 = _ from rfl) ?_
  refine E_il rfl (show pm_get (lv_args 0 [.ref 77, .int (nJ a), .int (nJ b)]) 2 = _ from rfl) ?_
  refine E_call rfl (Sp_le (by first | exact Nat.add_le_add_left (Nat.le_of_ble_eq_true rfl) _ | exact Nat.le_of_ble_eq_true rfl | omega) (sp_copyRow84 (d := 0) hh1 ha hb hab)) (chkS rfl (by show 0 ≤ 8; decide)) (fun h2 r2 => ?_)
  rintro ⟨e2, hh2, fq2, cq2, oq2⟩
  rw [e2]
  have fr2 : fr_g VC h0 h2 := fr_trans fr1 (fr_wk rfl fq2)
  show Ends _ _ (21, (lv_args 0 [.ref 77, .int (nJ a), .int (nJ b)]), [], h2, 0, 0) _
  refine E_al rfl (show pm_get (lv_args 0 [.ref 77, .int (nJ a), .int (nJ b)]) 0 = _ from rfl) ?_
  refine E_gr rfl hh2 (q := 85) rfl ?_
  refine E_ci 16 rfl ci16 ?_
  refine E_il rfl (show pm_get (lv_args 0 [.ref 77, .int (nJ a), .int (nJ b)]) 1 = _ from rfl) ?_
  refine E_il rfl (show pm_get (lv_args 0 [.ref 77, .int (nJ a), .int (nJ b)]) 2 = _ from rfl) ?_
  refine E_call rfl (Sp_le (by first | exact Nat.add_le_add_left (Nat.le_of_ble_eq_true rfl) _ | exact Nat.le_of_ble_eq_true rfl | omega) (sp_copyRow85 (d := 0) hh2 ha hb hab)) (chkS rfl (by show 0 ≤ 8; decide)) (fun h3 r3 => ?_)
  rintro ⟨e3, hh3, fq3, cq3, oq3⟩
  rw [e3]
  have fr3 : fr_g VC h0 h3 := fr_trans fr2 (fr_wk rfl fq3)
  show Ends _ _ (32, (lv_args 0 [.ref 77, .int (nJ a), .int (nJ b)]), [], h3, 0, 0) _
  refine E_al rfl (show pm_get (lv_args 0 [.ref 77, .int (nJ a), .int (nJ b)]) 0 = _ from rfl) ?_
  refine E_gr rfl hh3 (q := 86) rfl ?_
  refine E_ci 16 rfl ci16 ?_
  refine E_il rfl (show pm_get (lv_args 0 [.ref 77, .int (nJ a), .int (nJ b)]) 1 = _ from rfl) ?_
  refine E_il rfl (show pm_get (lv_args 0 [.ref 77, .int (nJ a), .int (nJ b)]) 2 = _ from rfl) ?_
  refine E_call rfl (Sp_le (by first | exact Nat.add_le_add_left (Nat.le_of_ble_eq_true rfl) _ | exact Nat.le_of_ble_eq_true rfl | omega) (sp_copyRow86 (d := 0) hh3 ha hb hab)) (chkS rfl (by show 0 ≤ 8; decide)) (fun h4 r4 => ?_)
  rintro ⟨e4, hh4, fq4, cq4, oq4⟩
  rw [e4]
  have fr4 : fr_g VC h0 h4 := fr_trans fr3 (fr_wk rfl fq4)
  show Ends _ _ (43, (lv_args 0 [.ref 77, .int (nJ a), .int (nJ b)]), [], h4, 0, 0) _
  refine E_al rfl (show pm_get (lv_args 0 [.ref 77, .int (nJ a), .int (nJ b)]) 0 = _ from rfl) ?_
  refine E_gr rfl hh4 (q := 87) rfl ?_
  refine E_ci 60 rfl ci60 ?_
  refine E_il rfl (show pm_get (lv_args 0 [.ref 77, .int (nJ a), .int (nJ b)]) 1 = _ from rfl) ?_
  refine E_il rfl (show pm_get (lv_args 0 [.ref 77, .int (nJ a), .int (nJ b)]) 2 = _ from rfl) ?_
  refine E_call rfl (Sp_le (by first | exact Nat.add_le_add_left (Nat.le_of_ble_eq_true rfl) _ | exact Nat.le_of_ble_eq_true rfl | omega) (sp_copyRow87 (d := 0) hh4 ha hb hab)) (chkS rfl (by show 0 ≤ 8; decide)) (fun h5 r5 => ?_)
  rintro ⟨e5, hh5, fq5, cq5, oq5⟩
  rw [e5]
  have fr5 : fr_g VC h0 h5 := fr_trans fr4 (fr_wk rfl fq5)
  show Ends _ _ (54, (lv_args 0 [.ref 77, .int (nJ a), .int (nJ b)]), [], h5, 0, 0) _
  have c84 : ∀ k, k < 6 → gn h5 84 (6 * b + k) = gn h0 84 (6 * a + k) := fun k hk => gn_gi (by rw [fr_gi fq5 (rg_no rfl _), fr_gi fq4 (rg_no rfl _), fr_gi fq3 (rg_no rfl _)]; rw [cq2 k hk]; rw [fr_gi fq1 (rg_no rfl _)])
  have o84 : ∀ j, (j < 6 * b ∨ 6 * b + 6 ≤ j) → gn h5 84 j = gn h0 84 j := fun j hj => gn_gi (by rw [fr_gi fq5 (rg_no rfl _), fr_gi fq4 (rg_no rfl _), fr_gi fq3 (rg_no rfl _)]; rw [oq2 j hj]; rw [fr_gi fq1 (rg_no rfl _)])
  have c85 : ∀ k, k < 16 → gn h5 85 (16 * b + k) = gn h0 85 (16 * a + k) := fun k hk => gn_gi (by rw [fr_gi fq5 (rg_no rfl _), fr_gi fq4 (rg_no rfl _)]; rw [cq3 k hk]; rw [fr_gi fq2 (rg_no rfl _), fr_gi fq1 (rg_no rfl _)])
  have o85 : ∀ j, (j < 16 * b ∨ 16 * b + 16 ≤ j) → gn h5 85 j = gn h0 85 j := fun j hj => gn_gi (by rw [fr_gi fq5 (rg_no rfl _), fr_gi fq4 (rg_no rfl _)]; rw [oq3 j hj]; rw [fr_gi fq2 (rg_no rfl _), fr_gi fq1 (rg_no rfl _)])
  have c87 : ∀ k, k < 60 → gn h5 87 (60 * b + k) = gn h0 87 (60 * a + k) := fun k hk => gn_gi (by rw [cq5 k hk]; rw [fr_gi fq4 (rg_no rfl _), fr_gi fq3 (rg_no rfl _), fr_gi fq2 (rg_no rfl _), fr_gi fq1 (rg_no rfl _)])
  have o87 : ∀ j, (j < 60 * b ∨ 60 * b + 60 ≤ j) → gn h5 87 j = gn h0 87 j := fun j hj => gn_gi (by rw [oq5 j hj]; rw [fr_gi fq4 (rg_no rfl _), fr_gi fq3 (rg_no rfl _), fr_gi fq2 (rg_no rfl _), fr_gi fq1 (rg_no rfl _)])
  exact E_ret rfl ⟨rfl, hh5, fr5, RI_copy (row_b hh0 ha).1 (row_b hh0 ha).2 c84 c85 c87, FAg_copy c87, fun r hr hrb => RI_copy (row_b hh0 hr).1 (row_b hh0 hr).2 (fun k hk => o84 _ (by first | decide | with_reducible assumption | omega)) (fun k hk => o85 _ (by first | decide | with_reducible assumption | omega)) (fun k hk => o87 _ (by first | decide | with_reducible assumption | omega)), fun r hr hrb => FAg_copy (fun k hk => o87 _ (by first | decide | with_reducible assumption | omega))⟩
end
