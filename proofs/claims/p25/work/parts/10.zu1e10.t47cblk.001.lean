section
section CBK
variable {h : pm_H} {d : Nat}
theorem mkb_eq {n x y : Nat} {b : Nat → Nat} (x1 : 1 ≤ x) (xn : x ≤ n) : mkb n b x = mkb n b y ↔ b x = b y := by
  constructor
  · intro e
    have := ms_inj e x1 xn
    rw [Nat.beq_refl] at this
    exact nbeq.mp this.symm
  · intro e
    unfold mkb
    rw [e]
theorem mkb_or {n x y : Nat} {b : Nat → Nat} (hn : n ≤ 9) : nJ (mkb n b x) ||| nJ (mkb n b y) = nJ (ms (inW b x y) n) := by
  unfold mkb
  rw [nJ_or (p512 hn _) (p512 hn _), ms_or]
  rfl
theorem jb_loop {n x y : Nat} {b : Nat → Nat} (hh : HH h) (M : MK n b h) (hb : ∀ k, 1 ≤ k → k ≤ n → 1 ≤ b k) (N : NC b n) (hne : b x ≠ b y) (y1 : 1 ≤ y) (yn : y ≤ n) (j : Nat) : ∀ {i : Nat} (lv : List (Nat × Value)), i + j = n → (∀ k, 1 ≤ k → k ≤ i → ¬ (inW b x y k = false ∧ 3 ≤ (cxs (inW b x y) (fun i => Nat.beq (b i) (b k)) n).2)) → pm_get lv 0 = some (.ref 13) → pm_get lv 3 = some (.int (nJ (ms (inW b x y) n))) → pm_get lv 4 = some (.int (nJ (i + 1))) → Ends (pm_at tX0_joinable) (pm_Rt pm_P (d + 2)) (60, lv, [], h, 0, 0) (fun h' r => h' = h ∧ ((MAY n b x y ∧ r = some (.int (nJ 1))) ∨ (¬ MAY n b x y ∧ r = some (.int (nJ 0))))) := by
  obtain ⟨m1, n1, n9, m2⟩ := M
  induction j with
  | zero =>
    intro i lv hj hA L0 L3 L4
    refine E_il rfl L4 ?_
    refine E_al rfl L0 ?_
    refine E_ogf (q := (0, 9)) rfl hh rfl rfl m1 ?_
    refine E_icT rfl (decide_eq_true ((nJ_lt (by omega) (by omega)).mpr (by omega))) ?_
    refine E_ci 1 rfl (by decide) ?_
    refine E_rtz rfl (.inr rfl) ⟨rfl, .inl ⟨⟨hne, fun X => ?_⟩, rfl⟩⟩
    obtain ⟨k, k1, k2, k3⟩ := (XC_iff hb N).mp X
    exact hA k k1 (by omega) k3
  | succ j ih =>
    intro i lv hj hA L0 L3 L4
    refine E_il rfl L4 ?_
    refine E_al rfl L0 ?_
    refine E_ogf (q := (0, 9)) rfl hh rfl rfl m1 ?_
    refine E_icF rfl (decide_eq_false (fun z => absurd ((nJ_lt (by omega) (by omega)).mp z) (by omega))) ?_
    refine E_il rfl L3 ?_
    refine E_il rfl L4 ?_
    refine E_call rfl (Sp_le (by omega) (sp_placeBit (d := d) (k := i + 1) (by omega) (by omega))) (chkS rfl (by show 1 ≤ 8; decide)) (fun h1 r1 => ?_)
    rintro ⟨e1, f1⟩
    rw [e1, f1, show i + 1 - 1 = i by omega]
    refine E_bin rfl rfl ?_
    have next : ¬ (inW b x y (i + 1) = false ∧ 3 ≤ (cxs (inW b x y) (fun i_1 => Nat.beq (b i_1) (b (i + 1))) n).2) → Ends (pm_at tX0_joinable) (pm_Rt pm_P (d + 2)) (96, lv, [], h, 0, 0) (fun h' r => h' = h ∧ ((MAY n b x y ∧ r = some (.int (nJ 1))) ∨ (¬ MAY n b x y ∧ r = some (.int (nJ 0))))) := by
      intro q
      refine E_inc rfl L4 (nJ_inc _) (fun lv1 K4 kp => ?_)
      refine E_goto rfl ?_
      refine ih lv1 (i := i + 1) (by omega) (fun k k1 k2 => ?_) (kp 0 _ (by decide) rfl L0) (kp 3 _ (by decide) rfl L3) K4
      by_cases e : k = i + 1
      · rw [e]; exact q
      · exact hA k k1 (by omega)
    cases hw : inW b x y (i + 1) with
    | true =>
      refine E_ifT rfl (decide_eq_true (fun z => absurd ((and_ms n9 (by omega)).mp z) (by rw [hw]; decide))) ?_
      exact next (fun q => by rw [hw] at q; cases q.1)
    | false =>
      refine E_ifF rfl (decide_eq_false (fun z => z ((and_ms n9 (by omega)).mpr hw))) ?_
      refine E_al rfl L0 ?_
      refine E_il rfl L3 ?_
      refine E_al rfl L0 ?_
      refine E_ogr (q := 14) rfl hh rfl rfl ?_
      refine E_il rfl L4 ?_
      refine E_ial rfl hh rfl (by omega) (by decide) (m2 (i + 1) (by omega) (by omega)) ?_
      refine E_call rfl (sp_crosses (d := d) (p := inW b x y) (q := fun i_1 => Nat.beq (b i_1) (b (i + 1))) hh m1 n9) (chkO (a := 13) hh rfl rfl rfl rfl (by show 0 ≤ 8; decide)) (fun h2 r2 => ?_)
      rintro ⟨e2, f2⟩
      rw [e2, f2]
      by_cases b3 : 3 ≤ (cxs (inW b x y) (fun i_1 => Nat.beq (b i_1) (b (i + 1))) n).2
      · refine E_ifF rfl (by rw [zb_T b3]; rfl) ?_
        refine E_ci 0 rfl (by decide) ?_
        exact E_rtz rfl (.inl rfl) ⟨rfl, .inr ⟨fun m => m.2 ((XC_iff hb N).mpr ⟨i + 1, by omega, by omega, hw, b3⟩), rfl⟩⟩
      · refine E_ifT rfl (by rw [zb_F b3]; rfl) ?_
        exact next (fun q => b3 q.2)
theorem sp_joinable {n x y : Nat} {b : Nat → Nat} (hh : HH h) (M : MK n b h) (hb : ∀ k, 1 ≤ k → k ≤ n → 1 ≤ b k) (N : NC b n) (x1 : 1 ≤ x) (xn : x ≤ n) (hy : y ≤ 9999) : Sp (d + 3) 16 h [.ref 13, .int (nJ x), .int (nJ y)] (fun h' r => h' = h ∧ (((1 ≤ y ∧ y ≤ n ∧ MAY n b x y) ∧ r = some (.int (nJ 1))) ∨ (¬ (1 ≤ y ∧ y ≤ n ∧ MAY n b x y) ∧ r = some (.int (nJ 0))))) := by
  obtain ⟨m1, n1, n9, m2⟩ := id M
  refine Sp_of aiX0_joinable rfl rfl rfl ?_
  have L0 : pm_get (lv_args 0 [.ref 13, .int (nJ x), .int (nJ y)]) 0 = some (.ref 13) := rfl
  have L1 : pm_get (lv_args 0 [.ref 13, .int (nJ x), .int (nJ y)]) 1 = some (.int (nJ x)) := rfl
  have L2 : pm_get (lv_args 0 [.ref 13, .int (nJ x), .int (nJ y)]) 2 = some (.int (nJ y)) := rfl
  generalize lv_args 0 [.ref 13, .int (nJ x), .int (nJ y)] = lv at L0 L1 L2 ⊢
  have no : ∀ {lv : List (Nat × Value)}, ¬ (1 ≤ y ∧ y ≤ n ∧ MAY n b x y) → Ends (pm_at tX0_joinable) (pm_Rt pm_P (d + 2)) (41, lv, [], h, 0, 0) (fun h' r => h' = h ∧ (((1 ≤ y ∧ y ≤ n ∧ MAY n b x y) ∧ r = some (.int (nJ 1))) ∨ (¬ (1 ≤ y ∧ y ≤ n ∧ MAY n b x y) ∧ r = some (.int (nJ 0))))) := by
    intro lv q
    refine E_ci 0 rfl (by decide) ?_
    exact E_rtz rfl (.inl rfl) ⟨rfl, .inr ⟨q, rfl⟩⟩
  refine E_il rfl L1 ?_
  refine E_ci 1 rfl (by decide) ?_
  refine E_icF rfl (decide_eq_false (fun z => absurd ((nJ_lt (by omega) (by omega)).mp z) (by omega))) ?_
  refine E_il rfl L1 ?_
  refine E_al rfl L0 ?_
  refine E_ogf (q := (0, 9)) rfl hh rfl rfl m1 ?_
  refine E_icF rfl (decide_eq_false (fun z => absurd ((nJ_lt (by omega) (by omega)).mp z) (by omega))) ?_
  refine E_il rfl L2 ?_
  refine E_ci 1 rfl (by decide) ?_
  by_cases y1 : y < 1
  · refine E_icT rfl (decide_eq_true ((nJ_lt (by omega) (by omega)).mpr y1)) ?_
    exact no (fun q => by have := q.1; omega)
  refine E_icF rfl (decide_eq_false (fun z => y1 ((nJ_lt (by omega) (by omega)).mp z))) ?_
  refine E_il rfl L2 ?_
  refine E_al rfl L0 ?_
  refine E_ogf (q := (0, 9)) rfl hh rfl rfl m1 ?_
  by_cases yn : n < y
  · refine E_icT rfl (decide_eq_true ((nJ_lt (by omega) (by omega)).mpr yn)) ?_
    exact no (fun q => by have := q.2.1; omega)
  refine E_icF rfl (decide_eq_false (fun z => yn ((nJ_lt (by omega) (by omega)).mp z))) ?_
  refine E_al rfl L0 ?_
  refine E_ogr (q := 14) rfl hh rfl rfl ?_
  refine E_il rfl L1 ?_
  refine E_ial rfl hh rfl (by omega) (by decide) (m2 x x1 xn) ?_
  refine E_al rfl L0 ?_
  refine E_ogr (q := 14) rfl hh rfl rfl ?_
  refine E_il rfl L2 ?_
  refine E_ial rfl hh rfl (by omega) (by decide) (m2 y (by omega) (by omega)) ?_
  have p1 := p512 (n := n) n9 (fun i => Nat.beq (b i) (b x))
  have p2 := p512 (n := n) n9 (fun i => Nat.beq (b i) (b y))
  by_cases e : b x = b y
  · refine E_icF rfl (decide_eq_false (fun z => z (by rw [(mkb_eq x1 xn).mpr e]))) ?_
    exact no (fun q => q.2.2.1 e)
  refine E_icT rfl (decide_eq_true (fun z => e ((mkb_eq x1 xn).mp ((nJ_eq (by show mkb n b x < _; unfold mkb; omega) (by show mkb n b y < _; unfold mkb; omega)).mp z)))) ?_
  refine E_al rfl L0 ?_
  refine E_ogr (q := 14) rfl hh rfl rfl ?_
  refine E_il rfl L1 ?_
  refine E_ial rfl hh rfl (by omega) (by decide) (m2 x x1 xn) ?_
  refine E_al rfl L0 ?_
  refine E_ogr (q := 14) rfl hh rfl rfl ?_
  refine E_il rfl L2 ?_
  refine E_ial rfl hh rfl (by omega) (by decide) (m2 y (by omega) (by omega)) ?_
  refine E_bin rfl (mkb_or n9) ?_
  refine E_is rfl (fun lv1 K3 kp1 => ?_)
  refine E_ci 1 rfl (by decide) ?_
  refine E_is rfl (fun lv2 K4 kp2 => ?_)
  refine Ends_mono ?_ (jb_loop (d := d) hh M hb N e (by omega) (by omega) n (i := 0) lv2 (by omega) (fun k k1 k2 => by omega) (kp2 0 _ (by decide) rfl (kp1 0 _ (by decide) rfl L0)) (kp2 3 _ (by decide) rfl K3) K4)
  rintro h' r ⟨q1, q2⟩
  refine ⟨q1, ?_⟩
  rcases q2 with ⟨q2, q3⟩ | ⟨q2, q3⟩
  · exact .inl ⟨⟨by omega, by omega, q2⟩, q3⟩
  · exact .inr ⟨fun z => q2 z.2.2, q3⟩
theorem mkb_mg {n x y k : Nat} {b : Nat → Nat} (k1 : 1 ≤ k) : mkb n (mg b x y) k = if inW b x y k = true then ms (inW b x y) n else mkb n b k := by
  unfold mkb
  by_cases hk : inW b x y k = true
  · rw [if_pos hk]
    refine ms_eq (fun i i1 _ => ?_)
    have e := mg_eq (b := b) (x := x) (y := y) i1 k1
    cases hi : inW b x y i with
    | true => exact nbeq.mpr (e.mpr (.inl ⟨hi, hk⟩))
    | false => exact nbeqF (fun z => (e.mp z).elim (fun q => by rw [hi] at q; cases q.1) (fun q => by rw [hk] at q; cases q.2.1))
  · rw [if_neg hk]
    have hk2 : inW b x y k = false := by cases hq : inW b x y k with | false => rfl | true => exact absurd hq hk
    refine ms_eq (fun i i1 _ => ?_)
    have e := mg_eq (b := b) (x := x) (y := y) i1 k1
    by_cases hi : b i = b k
    · have hi2 : inW b x y i = false := by rw [inW_F, hi]; exact inW_F.mp hk2
      rw [nbeq.mpr hi]
      exact nbeq.mpr (e.mpr (.inr ⟨hi2, hk2, hi⟩))
    · rw [nbeqF hi]
      exact nbeqF (fun z => (e.mp z).elim (fun q => hk q.2) (fun q => hi q.2.2))
theorem jn_loop {n x y : Nat} {b : Nat → Nat} {h0 : pm_H} (n9 : n ≤ 9) (M0 : ∀ k, 1 ≤ k → k ≤ n → gi h0 14 k = nJ (mkb n b k)) (j : Nat) : ∀ {h : pm_H} {i : Nat} (lv : List (Nat × Value)), i + j = n → HH h → fr_g [(14, 0, 9)] h0 h → gi h 13 1 = nJ n → (∀ k, 1 ≤ k → k ≤ i → gi h 14 k = nJ (mkb n (mg b x y) k)) → (∀ k, i < k → gi h 14 k = gi h0 14 k) → pm_get lv 0 = some (.ref 13) → pm_get lv 3 = some (.int (nJ (ms (inW b x y) n))) → pm_get lv 4 = some (.int (nJ (i + 1))) → Ends (pm_at tX0_join) (pm_Rt pm_P (d + 1)) (17, lv, [], h, 0, 0) (fun h' r => r = none ∧ HH h' ∧ fr_g [(14, 0, 9)] h0 h' ∧ ∀ k, 1 ≤ k → k ≤ n → gi h' 14 k = nJ (mkb n (mg b x y) k)) := by
  induction j with
  | zero =>
    intro h i lv hj hh hf m1 hA hB L0 L3 L4
    refine E_il rfl L4 ?_
    refine E_al rfl L0 ?_
    refine E_ogf (q := (0, 9)) rfl hh rfl rfl m1 ?_
    refine E_icT rfl (decide_eq_true ((nJ_lt (by omega) (by omega)).mpr (by omega))) ?_
    exact E_ret rfl ⟨rfl, hh, hf, fun k k1 k2 => hA k k1 (by omega)⟩
  | succ j ih =>
    intro h i lv hj hh hf m1 hA hB L0 L3 L4
    refine E_il rfl L4 ?_
    refine E_al rfl L0 ?_
    refine E_ogf (q := (0, 9)) rfl hh rfl rfl m1 ?_
    refine E_icF rfl (decide_eq_false (fun z => absurd ((nJ_lt (by omega) (by omega)).mp z) (by omega))) ?_
    refine E_il rfl L3 ?_
    refine E_il rfl L4 ?_
    refine E_call rfl (sp_placeBit (d := d) (k := i + 1) (by omega) (by omega)) (chkS rfl (by show 1 ≤ 8; decide)) (fun h1 r1 => ?_)
    rintro ⟨e1, f1⟩
    rw [e1, f1, show i + 1 - 1 = i by omega]
    refine E_bin rfl rfl ?_
    have next : ∀ {h2 : pm_H}, HH h2 → fr_g [(14, 0, 9)] h0 h2 → gi h2 13 1 = nJ n → (∀ k, k ≠ i + 1 → gi h2 14 k = gi h 14 k) → gi h2 14 (i + 1) = nJ (mkb n (mg b x y) (i + 1)) → Ends (pm_at tX0_join) (pm_Rt pm_P (d + 1)) (44, lv, [], h2, 0, 0) (fun h' r => r = none ∧ HH h' ∧ fr_g [(14, 0, 9)] h0 h' ∧ ∀ k, 1 ≤ k → k ≤ n → gi h' 14 k = nJ (mkb n (mg b x y) k)) := by
      intro h2 hh2 hf2 m12 q1 q2
      refine E_inc rfl L4 (nJ_inc _) (fun lv1 K4 kp => ?_)
      refine E_goto rfl ?_
      refine ih lv1 (i := i + 1) (by omega) hh2 hf2 m12 (fun k k1 k2 => ?_) (fun k hk => ?_) (kp 0 _ (by decide) rfl L0) (kp 3 _ (by decide) rfl L3) K4
      · by_cases e : k = i + 1
        · rw [e]; exact q2
        · rw [q1 k e]; exact hA k k1 (by omega)
      · rw [q1 k (by omega)]; exact hB k (by omega)
    cases hw : inW b x y (i + 1) with
    | true =>
      refine E_ifF rfl (decide_eq_false (fun z => absurd ((and_ms n9 (by omega)).mp z) (by rw [hw]; decide))) ?_
      refine E_al rfl L0 ?_
      refine E_ogr (q := 14) rfl hh rfl rfl ?_
      refine E_il rfl L4 ?_
      refine E_il rfl L3 ?_
      refine E_ias rfl hh rfl (by omega) (by decide) ?_
      have pb := p512 n9 (inW b x y)
      have b14 : bd 14 (i + 1) = some (0, 511) := bd_u rfl (by omega)
      refine next (HH_ptn hh b14 (by omega) (by omega) (by omega)) (fr_ptr (l := 0) (u := 9) rfl (by omega) (by omega) hf) (by rw [gi_ne (by omega)]; exact m1) (fun k hk => gi_ne (fun _ => hk)) ?_
      rw [gi_ptn hh b14 (by omega) (by omega) (by omega), mkb_mg (by omega), if_pos hw]
    | false =>
      refine E_ifT rfl (decide_eq_true ((and_ms n9 (by omega)).mpr hw)) ?_
      refine next hh hf m1 (fun _ _ => rfl) ?_
      rw [hB (i + 1) (by omega), M0 (i + 1) (by omega) (by omega), mkb_mg (by omega), if_neg (by rw [hw]; decide)]
end CBK
end
