section
theorem ct_one {u P : Nat} (hP : P ≤ 8) (ihu : ∀ u', u = u' + 1 → ∀ (h : pm_H) (nd m : Nat), HH h → gn h 84 0 = P → gi h 77 35 = nJ m → m < 512 → P ≤ u' + pcn m P → nd ≤ 8 → Sp (u' + 2) 234 h [.ref 77, .int (nJ nd)] (CQ h P m)) (h : pm_H) (node m : Nat) (hh : HH h) (hP0 : gn h 84 0 = P) (hm0 : gi h 77 35 = nJ m) (hm : m < 512) (hu : P ≤ u + pcn m P) (hn8 : node ≤ 8) : Sp (u + 2) 234 h [.ref 77, .int (nJ node)] (CQ h P m) := by
  refine Sp_of aiX9_counts0 rfl rfl rfl ?_
  refine E_al rfl (show pm_get (lv_args 0 [.ref 77, .int (nJ node)]) 0 = _ from rfl) ?_
  refine E_call rfl (sp_places hh) (chk77 hh rfl rfl (by show 0 ≤ 8; decide)) (fun h1 r1 => ?_)
  rintro ⟨e1, f1, c1⟩
  rw [e1, f1]
  show Ends _ _ (4, (lv_args 0 [.ref 77, .int (nJ node)]), [.int (nJ (gn h 84 0))], h, 0, 0) _
  refine E_ci 1 rfl (by decide) ?_
  refine E_bin rfl (pI_of _) ?_
  refine E_is rfl (fun lv2 L2_2 kp2 => ?_)
  have L2_0 := kp2 0 _ (by decide) rfl (show pm_get (lv_args 0 [.ref 77, .int (nJ node)]) 0 = _ from rfl)
  have L2_1 := kp2 1 _ (by decide) rfl (show pm_get (lv_args 0 [.ref 77, .int (nJ node)]) 1 = _ from rfl)
  exact ct_loop hP hn8 ihu (gn h 84 0) lv2 (by omega) hh hP0 hm0 hm (fun _ _ a => a) (fr_rf _ _) hu L2_0 L2_1 L2_2
theorem sp_counts0 {P : Nat} (hP : P ≤ 8) : ∀ (u : Nat) (h : pm_H) (node m : Nat), HH h → gn h 84 0 = P → gi h 77 35 = nJ m → m < 512 → P ≤ u + pcn m P → node ≤ 8 → Sp (u + 2) 234 h [.ref 77, .int (nJ node)] (CQ h P m)
  | 0 => ct_one hP (fun u' hu' => by omega)
  | u + 1 => ct_one hP (fun u' hu' => by
      have : u' = u := by omega
      subst this
      exact sp_counts0 hP u')
end
section
/-! by hand: the tree by wishes (written by gen_t4.py) -/
/-- a row's elements from the k-th down to the first -/
noncomputable def rl (g : Nat → Nat) : Nat → List Nat
  | 0 => []
  | k + 1 => g (k + 1) :: rl g k
theorem rl_eq {g g' : Nat → Nat} : ∀ {k : Nat}, (∀ i, 1 ≤ i → i ≤ k → g' i = g i) → rl g' k = rl g k
  | 0, _ => rfl
  | k + 1, h => by
    unfold rl
    rw [h (k + 1) (by omega) (by omega), rl_eq (k := k) (fun i h1 h2 => h i h1 (by omega))]
theorem rl_mem {g : Nat → Nat} {i : Nat} : ∀ {k : Nat}, 1 ≤ i → i ≤ k → g i ∈ rl g k
  | 0, h1, h2 => by omega
  | k + 1, h1, h2 => by
    unfold rl
    by_cases h : i = k + 1
    · subst h; exact List.mem_cons_self
    · exact List.mem_cons_of_mem _ (rl_mem (k := k) h1 (by omega))
theorem TL_par {f : Nat → Nat} : ∀ {L : List Nat}, TL f L → ∀ v, v ∈ L → f v = 0 ∨ f v ∈ L
  | [], _, v, hv => absurd hv List.not_mem_nil
  | u :: L, h, v, hv => by
    cases List.mem_cons.mp hv with
    | inl e =>
      subst e
      cases h.2.2.1 with
      | inl q => exact .inl q
      | inr q => exact .inr (List.mem_cons_of_mem _ q)
    | inr hv =>
      cases TL_par h.2.2.2 v hv with
      | inl q => exact .inl q
      | inr q => exact .inr (List.mem_cons_of_mem _ q)
theorem rl_len {g : Nat → Nat} : ∀ k, (rl g k).length = k
  | 0 => rfl
  | k + 1 => congrArg (· + 1) (rl_len k)
noncomputable def LM : List Rng := [(92, 0, 8), (93, 0, 8)]
/-- the row of places q + 1, cars below c are hung -/
noncomputable def LT (h0 h : pm_H) (q c n : Nat) : Prop := HH h ∧ fr_g LM h0 h ∧ gn h 93 0 = 0 ∧ n = 1 + cw (gn h0 89) q (gn h0 84 3) + ce (gn h0 89) (q + 1) c ∧ TL (gn h 92) (rl (gn h 93) (n - 1)) ∧ ∀ v, v ∈ rl (gn h 93) (n - 1) ↔ ∃ c', c' < gn h0 84 3 ∧ v = c' + 1 ∧ (gn h0 89 c' < q + 1 ∨ gn h0 89 c' = q + 1 ∧ c' < c)
theorem LT_n {h0 h : pm_H} {q c n : Nat} (T : LT h0 h q c n) (hc : c < gn h0 84 3) (he : gn h0 89 c = q + 1) : n ≤ gn h0 84 3 := by
  have h1 := cw_le (gn h0 89) (q + 1) (gn h0 84 3)
  have h2 := cw_succ (gn h0 89) q (gn h0 84 3)
  have h3 := ce_lt (gn h0 89) (q + 1) hc he
  have h4 := T.2.2.2.1
  omega
theorem LT_next {h0 h : pm_H} {q n : Nat} (T : LT h0 h q (gn h0 84 3) n) : LT h0 h (q + 1) 0 n := by
  obtain ⟨t1, t2, t3, t4, t5, t6⟩ := T
  refine ⟨t1, t2, t3, ?_, t5, fun v => ?_⟩
  · have h2 := cw_succ (gn h0 89) q (gn h0 84 3)
    have h3 : ce (gn h0 89) (q + 1 + 1) 0 = 0 := rfl
    omega
  · rw [t6]
    constructor
    · rintro ⟨c, a, b, e⟩; exact ⟨c, a, b, by omega⟩
    · rintro ⟨c, a, b, e⟩; exact ⟨c, a, b, by omega⟩
theorem LT_skip {h0 h : pm_H} {q c n : Nat} (T : LT h0 h q c n) (he : ¬ gn h0 89 c = q + 1) : LT h0 h q (c + 1) n := by
  obtain ⟨t1, t2, t3, t4, t5, t6⟩ := T
  refine ⟨t1, t2, t3, ?_, t5, fun v => ?_⟩
  · rw [ce_F he]; exact t4
  · rw [t6]
    constructor
    · rintro ⟨c', a, b, e⟩; exact ⟨c', a, b, by omega⟩
    · rintro ⟨c', a, b, e⟩
      refine ⟨c', a, b, ?_⟩
      by_cases hcc : c' = c
      · subst hcc; omega
      · omega
theorem LT_add {h0 h : pm_H} {q c n : Nat} (hh0 : HH h0) (hL : LWf h0) (hq : q < gn h0 84 0) (T : LT h0 h q c n) (hc : c < gn h0 84 3) (he : gn h0 89 c = q + 1) : LT h0 (pt (pt h 92 (c + 1) (nJ (gn h 93 q))) 93 n (nJ (c + 1))) q (c + 1) (n + 1) := by
  have hn := LT_n T hc he
  obtain ⟨t1, t2, t3, t4, t5, t6⟩ := T
  have hC8 : gn h0 84 3 ≤ 8 := gn_hi hh0 rfl (by decide)
  have hb : gn h 93 q ≤ 8 := gn_hi t1 (bd_u rfl (by have := hL.1; omega)) (by decide)
  have hh1 : HH (pt h 92 (c + 1) (nJ (gn h 93 q))) := HH_ptn t1 (bd_u rfl (by omega)) (by omega) (by omega) (by omega)
  have hh2 : HH (pt (pt h 92 (c + 1) (nJ (gn h 93 q))) 93 n (nJ (c + 1))) := HH_ptn hh1 (bd_u rfl (by omega)) (by omega) (by omega) (by omega)
  have e93 : gn (pt (pt h 92 (c + 1) (nJ (gn h 93 q))) 93 n (nJ (c + 1))) 93 n = c + 1 := gn_ptn hh1 (bd_u rfl (by omega)) (by omega) (by omega) (by omega)
  have e93' : ∀ i, i ≠ n → gn (pt (pt h 92 (c + 1) (nJ (gn h 93 q))) 93 n (nJ (c + 1))) 93 i = gn h 93 i := fun i hi => by rw [gn_ne (fun _ => hi), gn_ne (by omega)]
  have e92 : gn (pt (pt h 92 (c + 1) (nJ (gn h 93 q))) 93 n (nJ (c + 1))) 92 (c + 1) = gn h 93 q := by rw [gn_ne (by omega), gn_ptn t1 (bd_u rfl (by omega)) (by omega) (by omega) (by omega)]
  have erl : rl (gn (pt (pt h 92 (c + 1) (nJ (gn h 93 q))) 93 n (nJ (c + 1))) 93) (n + 1 - 1) = (c + 1) :: rl (gn h 93) (n - 1) := by
    rw [show n + 1 - 1 = (n - 1) + 1 by omega]
    unfold rl
    rw [show n - 1 + 1 = n by omega, e93, rl_eq (g := gn h 93) (fun i h1 h2 => e93' i (by omega))]
    cases n - 1 <;> rfl
  have hnL : c + 1 ∉ rl (gn h 93) (n - 1) := fun hm => by
    obtain ⟨c', a, b, e⟩ := (t6 _).mp hm
    have : c' = c := by omega
    subst this
    omega
  refine ⟨hh2, fr_ptr (l := 0) (u := 8) rfl (by omega) (by omega) (fr_ptr (l := 0) (u := 8) rfl (by omega) (by omega) t2), ?_, ?_, ?_, ?_⟩
  · rw [e93' 0 (by omega)]; exact t3
  · rw [ce_T he]; omega
  · rw [erl]
    refine ⟨by omega, hnL, ?_, TL_upd (fun v hv => ?_) t5⟩
    · rw [e92]
      by_cases h0 : q = 0
      · subst h0; exact .inl t3
      · right
        have := hL.2 q (by omega) (by omega)
        rw [← hL.1] at this
        exact rl_mem (by omega) (by omega)
    · have : v ≠ c + 1 := fun e => hnL (e ▸ hv)
      rw [gn_ne (by omega), gn_ne (fun _ => this)]
  · intro v
    rw [erl, List.mem_cons, t6]
    constructor
    · rintro (rfl | ⟨c', a, b, e⟩)
      · exact ⟨c, hc, rfl, by omega⟩
      · exact ⟨c', a, b, by omega⟩
    · rintro ⟨c', a, b, e⟩
      by_cases hcc : c' = c
      · subst hcc; exact .inl b
      · exact .inr ⟨c', a, b, by omega⟩
theorem LT_end {h0 h : pm_H} {n : Nat} (hh0 : HH h0) (hL : LWf h0) (T : LT h0 h (gn h0 84 0) 0 n) : ∀ v, 1 ≤ v → v ≤ gn h0 84 3 → dep (hg h) 8 v ∧ gn h 92 v ≤ gn h0 84 3 := by
  obtain ⟨t1, t2, t3, t4, t5, t6⟩ := T
  intro v h1 h2
  have hC8 : gn h0 84 3 ≤ 8 := gn_hi hh0 rfl (by decide)
  have hw := cw_le (gn h0 89) (gn h0 84 0) (gn h0 84 3)
  have hall : ∀ c, c < gn h0 84 3 → gn h0 89 c ≤ gn h0 84 0 := cw_all (by
    have := hL.2 (gn h0 84 0) (by have := hL.1; omega) (Nat.le_refl _)
    rw [← hL.1] at this ⊢
    exact this)
  have h3 : ce (gn h0 89) (gn h0 84 0 + 1) 0 = 0 := rfl
  have hmem := (t6 v).mpr ⟨v - 1, by omega, by omega, .inl (by have := hall (v - 1) (by omega); omega)⟩
  constructor
  · rw [hg_gn]
    refine dep_le (TL_dep t5 v hmem) ?_
    rw [rl_len]
    omega
  · cases TL_par t5 v hmem with
    | inl e => omega
    | inr e =>
      obtain ⟨c', a, b, -⟩ := (t6 _).mp e
      omega
theorem lt_in {h0 : pm_H} {d q : Nat} (hh0 : HH h0) (hL : LWf h0) (hq : q < gn h0 84 0) (K : ∀ {h : pm_H} {n : Nat} (lv : List (Nat × Value)), LT h0 h (q + 1) 0 n → pm_get lv 0 = some (.ref 77) → pm_get lv 1 = some (.int (nJ n)) → pm_get lv 2 = some (.int (nJ (q + 1 + 1))) → Ends (pm_at tX9_laysTree) (pm_Rt pm_P (d + 1)) (11, lv, [], h, 0, 0) (fun h' r => r = none ∧ HH h' ∧ fr_g LM h0 h' ∧ ∀ v, 1 ≤ v → v ≤ gn h0 84 3 → dep (hg h') 8 v ∧ gn h' 92 v ≤ gn h0 84 3)) (j : Nat) : ∀ {h : pm_H} {c n : Nat} (lv : List (Nat × Value)), c + j = gn h0 84 3 → LT h0 h q c n → pm_get lv 0 = some (.ref 77) → pm_get lv 1 = some (.int (nJ n)) → pm_get lv 2 = some (.int (nJ (q + 1))) → pm_get lv 3 = some (.int (nJ c)) → Ends (pm_at tX9_laysTree) (pm_Rt pm_P (d + 1)) (21, lv, [], h, 0, 0) (fun h' r => r = none ∧ HH h' ∧ fr_g LM h0 h' ∧ ∀ v, 1 ≤ v → v ≤ gn h0 84 3 → dep (hg h') 8 v ∧ gn h' 92 v ≤ gn h0 84 3) := by
  have hC : gn h0 84 3 ≤ 8 := gn_hi hh0 rfl (by decide)
  have hCP := hL.1
  induction j with
  | zero =>
    intro h c n lv hj T L0 L1 L2 L3
    have hce : gn h 84 3 = gn h0 84 3 := fr_gn T.2.1 (rg_no rfl _)
    refine E_il rfl L3 ?_
    refine E_al rfl L0 ?_
    refine E_call rfl (sp_cars T.1) (chk77 T.1 rfl rfl (by show 1 ≤ 8; decide)) (fun h1 r1 => ?_)
    rintro ⟨e1, f1, c1⟩
    rw [e1, f1]
    show Ends _ _ (26, lv, [.int (nJ (gn h 84 3)), .int (nJ c)], h, 0, 0) _
    refine E_icT rfl (decide_eq_true ((nJ_le (by omega) (by omega)).mpr (by omega))) ?_
    refine E_inc rfl L2 (nJ_inc _) (fun lv2 L2_2 kp2 => ?_)
    have L2_0 := kp2 0 _ (by decide) rfl L0
    have L2_1 := kp2 1 _ (by decide) rfl L1
    have L2_3 := kp2 3 _ (by decide) rfl L3
    refine E_goto rfl ?_
    exact K lv2 (LT_next (by rw [show gn h0 84 3 = c by omega]; exact T)) L2_0 L2_1 L2_2
  | succ j ih =>
    intro h c n lv hj T L0 L1 L2 L3
    have hce : gn h 84 3 = gn h0 84 3 := fr_gn T.2.1 (rg_no rfl _)
    refine E_il rfl L3 ?_
    refine E_al rfl L0 ?_
    refine E_call rfl (sp_cars T.1) (chk77 T.1 rfl rfl (by show 1 ≤ 8; decide)) (fun h1 r1 => ?_)
    rintro ⟨e1, f1, c1⟩
    rw [e1, f1]
    show Ends _ _ (26, lv, [.int (nJ (gn h 84 3)), .int (nJ c)], h, 0, 0) _
    refine E_icF rfl (decide_eq_false (fun q => absurd ((nJ_le (by omega) (by omega)).mp q) (by omega))) ?_
    have hw8 : gn h0 89 c ≤ 8 := gn_hi hh0 (bd_u rfl (by omega)) (by decide)
    refine E_al rfl L0 ?_
    refine E_gr rfl T.1 (q := 89) rfl ?_
    refine E_il rfl L3 ?_
    refine E_ial rfl T.1 rfl (by omega) (by decide) (show gi h 89 c = nJ ((gn h0 89 c)) from (by rw [fr_gi T.2.1 (rg_no rfl _)]; exact gi_gn hh0 (bd_u rfl (by omega)) (by decide))) ?_
    refine E_il rfl L2 ?_
    by_cases hb2 : (gn h0 89 c) = (q + 1)
    · refine E_icT rfl (decide_eq_true ((nJ_eq (by omega) (by omega)).mpr hb2)) ?_
      have hn8 := LT_n T (by omega) (by omega)
      refine E_al rfl L0 ?_
      refine E_gr rfl T.1 (q := 92) rfl ?_
      refine E_il rfl L3 ?_
      refine E_ci 1 rfl (by decide) ?_
      refine E_bin rfl (nJ_add _ _) ?_
      refine E_al rfl L0 ?_
      refine E_gr rfl T.1 (q := 93) rfl ?_
      refine E_il rfl L2 ?_
      refine E_ci 1 rfl (by decide) ?_
      refine E_bin rfl (show nJ (q + 1) - nJ 1 = nJ q from nJ_sub (by omega)) ?_
      have b3 : gn h 93 q ≤ 8 := gn_hi T.1 (bd_u rfl (by omega)) (by decide)
      refine E_ial rfl T.1 rfl (by omega) (by decide) (gi_gn T.1 (bd_u rfl (by omega)) (by decide)) ?_
      refine E_ias rfl T.1 rfl (by omega) (by decide) ?_
      have hh4 : HH (pt h 92 ((c + 1)) (nJ ((gn h 93 q)))) := HH_ptn T.1 (bd_u rfl (by omega)) (by omega) (by omega) (by omega)
      refine E_al rfl L0 ?_
      refine E_gr rfl hh4 (q := 93) rfl ?_
      refine E_il rfl L1 ?_
      refine E_il rfl L3 ?_
      refine E_ci 1 rfl (by decide) ?_
      refine E_bin rfl (nJ_add _ _) ?_
      refine E_ias rfl hh4 rfl (by omega) (by decide) ?_
      have hh5 : HH (pt (pt h 92 ((c + 1)) (nJ ((gn h 93 q)))) 93 n (nJ ((c + 1)))) := HH_ptn hh4 (bd_u rfl (by omega)) (by omega) (by omega) (by omega)
      refine E_inc rfl L1 (nJ_inc _) (fun lv6 L6_1 kp6 => ?_)
      have L6_0 := kp6 0 _ (by decide) rfl L0
      have L6_2 := kp6 2 _ (by decide) rfl L2
      have L6_3 := kp6 3 _ (by decide) rfl L3
      refine E_inc rfl L6_3 (nJ_inc _) (fun lv7 L7_3 kp7 => ?_)
      have L7_0 := kp7 0 _ (by decide) rfl L6_0
      have L7_1 := kp7 1 _ (by decide) rfl L6_1
      have L7_2 := kp7 2 _ (by decide) rfl L6_2
      refine E_goto rfl ?_
      exact ih lv7 (by omega) (LT_add hh0 hL hq T (by omega) (by omega)) L7_0 L7_1 L7_2 L7_3
    · refine E_icF rfl (decide_eq_false (fun q => hb2 ((nJ_eq (by omega) (by omega)).mp q))) ?_
      refine E_goto rfl ?_
      refine E_inc rfl L3 (nJ_inc _) (fun lv8 L8_3 kp8 => ?_)
      have L8_0 := kp8 0 _ (by decide) rfl L0
      have L8_1 := kp8 1 _ (by decide) rfl L1
      have L8_2 := kp8 2 _ (by decide) rfl L2
      refine E_goto rfl ?_
      exact ih lv8 (by omega) (LT_skip T (by omega)) L8_0 L8_1 L8_2 L8_3
end
