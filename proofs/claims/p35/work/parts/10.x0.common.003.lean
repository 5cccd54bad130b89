section
theorem LT_end {h0 h : pm_H} {n : Nat} (hh0 : HH h0) (hL : LWf h0) (T : LT h0 h (gn h0 84 0) 0 n) : ∀ v, 1 ≤ v → v ≤ gn h0 84 3 → dep (hg h) 8 v ∧ gn h 92 v ≤ gn h0 84 3 := by
  obtain ⟨t1, t2, t3, t4, t5, t6⟩ := T
  intro v h1 h2
  have hC8 : gn h0 84 3 ≤ 8 := gn_hi hh0 rfl (by decide)
  have hw := cw_le (gn h0 89) (gn h0 84 0) (gn h0 84 3)
  have hall : ∀ c, c < gn h0 84 3 → gn h0 89 c ≤ gn h0 84 0 := cw_all (by
    have := hL.2 (gn h0 84 0) (by have := hL.1; omega) (Nat.le_refl _)
    rw [← hL.1] at this ⊢
    exact this)
  have h3 : ce (gn h0 89) (gn h0 84 0 + 1) 0 = 0 := rfl
  have hmem := (t6 v).mpr ⟨v - 1, by omega, by omega, .inl (by have := hall (v - 1) (by omega); omega)⟩
  constructor
  · rw [hg_gn]
    refine dep_le (TL_dep t5 v hmem) ?_
    rw [rl_len]
    omega
  · cases TL_par t5 v hmem with
    | inl e => omega
    | inr e =>
      obtain ⟨c', a, b, -⟩ := (t6 _).mp e
      omega
theorem lt_in {h0 : pm_H} {d q : Nat} (hh0 : HH h0) (hL : LWf h0) (hq : q < gn h0 84 0) (K : ∀ {h : pm_H} {n : Nat} (lv : List (Nat × Value)), LT h0 h (q + 1) 0 n → pm_get lv 0 = some (.ref 77) → pm_get lv 1 = some (.int (nJ n)) → pm_get lv 2 = some (.int (nJ (q + 1 + 1))) → Ends (pm_at tX9_laysTree) (pm_Rt pm_P (d + 1)) (11, lv, [], h, 0, 0) (fun h' r => r = none ∧ HH h' ∧ fr_g LM h0 h' ∧ ∀ v, 1 ≤ v → v ≤ gn h0 84 3 → dep (hg h') 8 v ∧ gn h' 92 v ≤ gn h0 84 3)) (j : Nat) : ∀ {h : pm_H} {c n : Nat} (lv : List (Nat × Value)), c + j = gn h0 84 3 → LT h0 h q c n → pm_get lv 0 = some (.ref 77) → pm_get lv 1 = some (.int (nJ n)) → pm_get lv 2 = some (.int (nJ (q + 1))) → pm_get lv 3 = some (.int (nJ c)) → Ends (pm_at tX9_laysTree) (pm_Rt pm_P (d + 1)) (21, lv, [], h, 0, 0) (fun h' r => r = none ∧ HH h' ∧ fr_g LM h0 h' ∧ ∀ v, 1 ≤ v → v ≤ gn h0 84 3 → dep (hg h') 8 v ∧ gn h' 92 v ≤ gn h0 84 3) := by
  have hC : gn h0 84 3 ≤ 8 := gn_hi hh0 rfl (by decide)
  have hCP := hL.1
  induction j with
  | zero =>
    intro h c n lv hj T L0 L1 L2 L3
    have hce : gn h 84 3 = gn h0 84 3 := fr_gn T.2.1 (rg_no rfl _)
    refine E_il rfl L3 ?_
    refine E_al rfl L0 ?_
    refine E_call rfl (sp_cars T.1) (chk77 T.1 rfl rfl (by show 1 ≤ 8; decide)) (fun h1 r1 => ?_)
    rintro ⟨e1, f1, c1⟩
    rw [e1, f1]
    show Ends _ _ (26, lv, [.int (nJ (gn h 84 3)), .int (nJ c)], h, 0, 0) _
    refine E_icT rfl (decide_eq_true ((nJ_le (by omega) (by omega)).mpr (by omega))) ?_
    refine E_inc rfl L2 (nJ_inc _) (fun lv2 L2_2 kp2 => ?_)
    have L2_0 := kp2 0 _ (nbz rfl) rfl L0
    have L2_1 := kp2 1 _ (nbz rfl) rfl L1
    have L2_3 := kp2 3 _ (nbz rfl) rfl L3
    refine E_goto rfl ?_
    exact K lv2 (LT_next (by rw [show gn h0 84 3 = c by omega]; exact T)) L2_0 L2_1 L2_2
  | succ j ih =>
    intro h c n lv hj T L0 L1 L2 L3
    have hce : gn h 84 3 = gn h0 84 3 := fr_gn T.2.1 (rg_no rfl _)
    refine E_il rfl L3 ?_
    refine E_al rfl L0 ?_
    refine E_call rfl (sp_cars T.1) (chk77 T.1 rfl rfl (by show 1 ≤ 8; decide)) (fun h1 r1 => ?_)
    rintro ⟨e1, f1, c1⟩
    rw [e1, f1]
    show Ends _ _ (26, lv, [.int (nJ (gn h 84 3)), .int (nJ c)], h, 0, 0) _
    refine E_icF rfl (decide_eq_false (fun q => absurd ((nJ_le (by omega) (by omega)).mp q) (by omega))) ?_
    have hw8 : gn h0 89 c ≤ 8 := gn_hi hh0 (bd_u rfl (by omega)) (by decide)
    refine E_al rfl L0 ?_
    refine E_gr rfl T.1 (q := 89) rfl ?_
    refine E_il rfl L3 ?_
    refine E_ial rfl T.1 rfl (by omega) (by decide) (show gi h 89 c = nJ ((gn h0 89 c)) from (by rw [fr_gi T.2.1 (rg_no rfl _)]; exact gi_gn hh0 (bd_u rfl (by omega)) (by decide))) ?_
    refine E_il rfl L2 ?_
    by_cases hb2 : (gn h0 89 c) = (q + 1)
    · refine E_icT rfl (decide_eq_true ((nJ_eq (by omega) (by omega)).mpr hb2)) ?_
      have hn8 := LT_n T (by omega) (by omega)
      refine E_al rfl L0 ?_
      refine E_gr rfl T.1 (q := 92) rfl ?_
      refine E_il rfl L3 ?_
      refine E_ci 1 rfl ci1 ?_
      refine E_bin rfl (nJ_add _ _) ?_
      refine E_al rfl L0 ?_
      refine E_gr rfl T.1 (q := 93) rfl ?_
      refine E_il rfl L2 ?_
      refine E_ci 1 rfl ci1 ?_
      refine E_bin rfl (show nJ (q + 1) - nJ 1 = nJ q from nJ_sub (by omega)) ?_
      have b3 : gn h 93 q ≤ 8 := gn_hi T.1 (bd_u rfl (by omega)) (by decide)
      refine E_ial rfl T.1 rfl (by omega) (by decide) (gi_gn T.1 (bd_u rfl (by omega)) (by decide)) ?_
      refine E_ias rfl T.1 rfl (by omega) (by decide) ?_
      have hh4 : HH (pt h 92 ((c + 1)) (nJ ((gn h 93 q)))) := HH_ptn T.1 (bd_u rfl (by omega)) (by omega) (by omega) (by omega)
      refine E_al rfl L0 ?_
      refine E_gr rfl hh4 (q := 93) rfl ?_
      refine E_il rfl L1 ?_
      refine E_il rfl L3 ?_
      refine E_ci 1 rfl ci1 ?_
      refine E_bin rfl (nJ_add _ _) ?_
      refine E_ias rfl hh4 rfl (by omega) (by decide) ?_
      have hh5 : HH (pt (pt h 92 ((c + 1)) (nJ ((gn h 93 q)))) 93 n (nJ ((c + 1)))) := HH_ptn hh4 (bd_u rfl (by omega)) (by omega) (by omega) (by omega)
      refine E_inc rfl L1 (nJ_inc _) (fun lv6 L6_1 kp6 => ?_)
      have L6_0 := kp6 0 _ (nbz rfl) rfl L0
      have L6_2 := kp6 2 _ (nbz rfl) rfl L2
      have L6_3 := kp6 3 _ (nbz rfl) rfl L3
      refine E_inc rfl L6_3 (nJ_inc _) (fun lv7 L7_3 kp7 => ?_)
      have L7_0 := kp7 0 _ (nbz rfl) rfl L6_0
      have L7_1 := kp7 1 _ (nbz rfl) rfl L6_1
      have L7_2 := kp7 2 _ (nbz rfl) rfl L6_2
      refine E_goto rfl ?_
      exact ih lv7 (by omega) (LT_add hh0 hL hq T (by omega) (by omega)) L7_0 L7_1 L7_2 L7_3
    · refine E_icF rfl (decide_eq_false (fun q => hb2 ((nJ_eq (by omega) (by omega)).mp q))) ?_
      refine E_goto rfl ?_
      refine E_inc rfl L3 (nJ_inc _) (fun lv8 L8_3 kp8 => ?_)
      have L8_0 := kp8 0 _ (nbz rfl) rfl L0
      have L8_1 := kp8 1 _ (nbz rfl) rfl L1
      have L8_2 := kp8 2 _ (nbz rfl) rfl L2
      refine E_goto rfl ?_
      exact ih lv8 (by omega) (LT_skip T (by omega)) L8_0 L8_1 L8_2 L8_3
theorem lt_out {h0 : pm_H} {d : Nat} (hh0 : HH h0) (hL : LWf h0) (j : Nat) : ∀ {h : pm_H} {q n : Nat} (lv : List (Nat × Value)), q + j = gn h0 84 0 → LT h0 h q 0 n → pm_get lv 0 = some (.ref 77) → pm_get lv 1 = some (.int (nJ n)) → pm_get lv 2 = some (.int (nJ (q + 1))) → Ends (pm_at tX9_laysTree) (pm_Rt pm_P (d + 1)) (11, lv, [], h, 0, 0) (fun h' r => r = none ∧ HH h' ∧ fr_g LM h0 h' ∧ ∀ v, 1 ≤ v → v ≤ gn h0 84 3 → dep (hg h') 8 v ∧ gn h' 92 v ≤ gn h0 84 3) := by
  have hP : gn h0 84 0 ≤ 8 := gn_hi hh0 rfl (by decide)
  induction j with
  | zero =>
    intro h q n lv hj T L0 L1 L2
    have hpe : gn h 84 0 = gn h0 84 0 := fr_gn T.2.1 (rg_no rfl _)
    refine E_il rfl L2 ?_
    refine E_al rfl L0 ?_
    refine E_call rfl (sp_places T.1) (chk77 T.1 rfl rfl (by show 1 ≤ 8; decide)) (fun h1 r1 => ?_)
    rintro ⟨e1, f1, c1⟩
    rw [e1, f1]
    show Ends _ _ (16, lv, [.int (nJ (gn h 84 0)), .int (nJ (q + 1))], h, 0, 0) _
    refine E_icT rfl (decide_eq_true ((nJ_lt (by omega) (by omega)).mpr (by omega))) ?_
    exact E_ret rfl ⟨rfl, T.1, T.2.1, LT_end hh0 hL (by rw [show gn h0 84 0 = q by omega]; exact T)⟩
  | succ j ih =>
    intro h q n lv hj T L0 L1 L2
    have hpe : gn h 84 0 = gn h0 84 0 := fr_gn T.2.1 (rg_no rfl _)
    refine E_il rfl L2 ?_
    refine E_al rfl L0 ?_
    refine E_call rfl (sp_places T.1) (chk77 T.1 rfl rfl (by show 1 ≤ 8; decide)) (fun h1 r1 => ?_)
    rintro ⟨e1, f1, c1⟩
    rw [e1, f1]
    show Ends _ _ (16, lv, [.int (nJ (gn h 84 0)), .int (nJ (q + 1))], h, 0, 0) _
    refine E_icF rfl (decide_eq_false (fun q => absurd ((nJ_lt (by omega) (by omega)).mp q) (by omega))) ?_
    refine E_ci 0 rfl ci0 ?_
    refine E_is rfl (fun lv2 L2_3 kp2 => ?_)
    have L2_0 := kp2 0 _ (nbz rfl) rfl L0
    have L2_1 := kp2 1 _ (nbz rfl) rfl L1
    have L2_2 := kp2 2 _ (nbz rfl) rfl L2
    exact lt_in hh0 hL (by omega) (fun lv T a b c => ih lv (by omega) T a b c) (gn h0 84 3) (c := 0) lv2 (by omega) T L2_0 L2_1 L2_2 L2_3
theorem sp_laysTree {h0 : pm_H} {d : Nat} (hh : HH h0) (hL : LWf h0) (hw1 : ∀ c, c < gn h0 84 3 → 1 ≤ gn h0 89 c) : Sp (d + 2) 299 h0 [.ref 77] (fun h' r => r = none ∧ HH h' ∧ fr_g LM h0 h' ∧ ∀ v, 1 ≤ v → v ≤ gn h0 84 3 → dep (hg h') 8 v ∧ gn h' 92 v ≤ gn h0 84 3) := by
  have hz : cw (gn h0 89) 0 (gn h0 84 3) = 0 := cw_none (fun c hc => by have := hw1 c hc; omega)
  refine Sp_of aiX9_laysTree rfl rfl rfl ?_
  refine E_ci 1 rfl ci1 ?_
  refine E_is rfl (fun lv1 L1_1 kp1 => ?_)
  have L1_0 := kp1 0 _ (nbz rfl) rfl (show pm_get (lv_args 0 [.ref 77]) 0 = _ from rfl)
  refine E_al rfl L1_0 ?_
  refine E_gr rfl hh (q := 93) rfl ?_
  refine E_ci 0 rfl ci0 ?_
  refine E_ci 0 rfl ci0 ?_
  refine E_ias rfl hh rfl (by omega) (by decide) ?_
  have hh2 : HH (pt h0 93 0 (nJ 0)) := HH_ptn hh (bd_u rfl (by omega)) (by omega) (by omega) (by omega)
  refine E_ci 1 rfl ci1 ?_
  refine E_is rfl (fun lv3 L3_2 kp3 => ?_)
  have L3_0 := kp3 0 _ (nbz rfl) rfl L1_0
  have L3_1 := kp3 1 _ (nbz rfl) rfl L1_1
  refine lt_out hh hL (gn h0 84 0) (q := 0) (n := 1) lv3 (by omega) ⟨hh2, fr_ptr (l := 0) (u := 8) rfl (by omega) (by omega) (fr_rf _ _), gn_ptn hh (bd_u rfl (by omega)) (by omega) (by omega) (by omega), ?_, trivial, fun v => ⟨fun hv => absurd hv List.not_mem_nil, fun ⟨c, a, b, e⟩ => ?_⟩⟩ L3_0 L3_1 L3_2
  · rw [hz]; rfl
  · exfalso; have := hw1 c a; omega
end
section
/-! by hand: a tree out of its edges (written by gen_t5.py) -/
theorem nJ_mul (a b : Nat) : nJ a * nJ b = nJ (a * b) := by
  unfold nJ
  rw [← Int32.ofInt_mul]
  rfl
/-- the other end of an edge -/
noncomputable def xr (k : Nat) : Nat := if k % 2 = 0 then k + 1 else k - 1
theorem xr_tab : ∀ k : Fin 18, nJ k.val ^^^ nJ 1 = nJ (xr k.val) := by decide +kernel
theorem xr_lt {k n : Nat} (h : k < 2 * n) : xr k < 2 * n := by
  unfold xr
  split <;> omega
theorem xr_xr (k : Nat) : xr (xr k) = k := by
  unfold xr
  by_cases h : k % 2 = 0
  · rw [if_pos h, if_neg (by omega)]; omega
  · rw [if_neg h, if_pos (by omega)]; omega
theorem sh_tab : ∀ n : Fin 10, nJ 1 <<< (nJ n.val &&& 31) = nJ (2 ^ n.val) := by decide +kernel
theorem full_ckX : (List.range 10).all (fun n => (List.range (2 ^ n)).all (fun m => Nat.beq m (2 ^ n - 1) || (List.range n).any (fun v => !(isB m v)))) = true := by decide +kernel
theorem full_tab : ∀ n : Fin 10, ∀ m : Fin 512, m.val < 2 ^ n.val → m.val ≠ 2 ^ n.val - 1 → ∃ v : Fin 9, v.val < n.val ∧ isB m.val v.val = false := by
  intro n m h1 h2
  have a := List.all_eq_true.mp (List.all_eq_true.mp full_ckX n.val (List.mem_range.mpr n.isLt)) m.val (List.mem_range.mpr h1)
  rw [Bool.or_eq_true] at a
  rcases a with a | a
  · exact absurd (Nat.eq_of_beq_eq_true a) h2
  · obtain ⟨v, hv, e⟩ := List.any_eq_true.mp a
    have hv := List.mem_range.mp hv
    have := n.isLt
    refine ⟨⟨v, by omega⟩, hv, ?_⟩
    cases k : isB m.val v
    · rfl
    · rw [k] at e; cases e
theorem all_tab : ∀ n : Fin 10, ∀ v : Fin 9, v.val < n.val → isB (2 ^ n.val - 1) v.val = true := by decide +kernel
theorem add_ckX : (List.range 10).all (fun n => (List.range (2 ^ n)).all (fun m => (List.range n).all (fun v => isB m v || Nat.blt (m + 2 ^ v) (2 ^ n)))) = true := by decide +kernel
theorem add_tab : ∀ n : Fin 10, ∀ m : Fin 512, m.val < 2 ^ n.val → ∀ v : Fin 9, v.val < n.val → isB m.val v.val = false → m.val + 2 ^ v.val < 2 ^ n.val := by
  intro n m h1 v h2 h3
  have a := List.all_eq_true.mp (List.all_eq_true.mp (List.all_eq_true.mp add_ckX n.val (List.mem_range.mpr n.isLt)) m.val (List.mem_range.mpr h1)) v.val (List.mem_range.mpr h2)
  rw [h3, Bool.false_or] at a
  exact Nat.le_of_ble_eq_true a
theorem pow_tab : ∀ n : Fin 10, 1 ≤ 2 ^ n.val ∧ 2 ^ n.val ≤ 512 := by decide +kernel
theorem pcn_slt {m m' v : Nat} : ∀ {n : Nat}, (∀ k, k < n → isB m k = true → isB m' k = true) → v < n → isB m v = false → isB m' v = true → pcn m n < pcn m' n
  | 0, _, h, _, _ => absurd h (Nat.not_lt_zero _)
  | n + 1, h, hv, h1, h2 => by
    unfold pcn
    by_cases hn : v = n
    · subst hn
      have := pcn_mono (n := v) (fun k hk => h k (by omega))
      rw [h1, h2, if_neg (by decide), if_pos rfl]
      omega
    · have := pcn_slt (n := n) (fun k hk => h k (by omega)) (by omega) h1 h2
      by_cases h3 : isB m n = true
      · rw [if_pos h3, if_pos (h n (by omega) h3)]; omega
      · rw [if_neg h3]; split <;> omega
noncomputable def RM : List Rng := [(92, 0, 8)]
noncomputable def RS (h0 h : pm_H) (N m : Nat) (L : List Nat) : Prop := HH h ∧ fr_g RM h0 h ∧ m < 2 ^ N ∧ isB m 0 = true ∧ TL (gn h 92) L ∧ (∀ v, v ∈ L ↔ v ≠ 0 ∧ v < N ∧ isB m v = true) ∧ L.length + 1 = pcn m N ∧ ∀ v, v ∈ L → gn h 92 v < N
theorem RS_add {h0 h : pm_H} {N m a b : Nat} {L : List Nat} (R : RS h0 h N m L) (hN : N ≤ 9) (ha : a < N) (hb : b < N) (h1 : isB m a = true) (h2 : isB m b = false) : RS h0 (pt h 92 b (nJ a)) N (m + 2 ^ b) (b :: L) := by
  obtain ⟨r1, r2, r3, r4, r5, r6, r7, r8⟩ := R
  have hm : m < 512 := Nat.lt_of_lt_of_le r3 (pow_tab ⟨N, by omega⟩).2
  have hh1 : HH (pt h 92 b (nJ a)) := HH_ptn r1 (bd_u rfl (by omega)) (by omega) (by omega) (by omega)
  have e92 : gn (pt h 92 b (nJ a)) 92 b = a := gn_ptn r1 (bd_u rfl (by omega)) (by omega) (by omega) (by omega)
  have hb0 : b ≠ 0 := fun e => by rw [e, r4] at h2; cases h2
  have hbL : b ∉ L := fun e => by rw [((r6 b).mp e).2.2] at h2; cases h2
  have hB : ∀ v, v < N → isB (m + 2 ^ b) v = (v == b || isB m v) := fun v hv => isB_add hm (by omega) (by omega) h2
  refine ⟨hh1, fr_ptr (l := 0) (u := 8) rfl (by omega) (by omega) r2, add_tab ⟨N, by omega⟩ ⟨m, hm⟩ r3 ⟨b, by omega⟩ hb h2, ?_, ⟨hb0, hbL, ?_, TL_upd (fun v hv => gn_ne (fun _ e => hbL (e ▸ hv))) r5⟩, fun v => ⟨fun hv => ?_, fun hv => ?_⟩, ?_, fun v hv => ?_⟩
  · rw [hB 0 (by omega), r4, Bool.or_true]
  · rw [e92]
    by_cases h0 : a = 0
    · exact .inl h0
    · exact .inr ((r6 a).mpr ⟨h0, ha, h1⟩)
  · cases List.mem_cons.mp hv with
    | inl e => subst e; exact ⟨hb0, hb, by rw [hB v hb, beq_self_eq_true]; rfl⟩
    | inr e =>
      obtain ⟨q1, q2, q3⟩ := (r6 v).mp e
      exact ⟨q1, q2, by rw [hB v q2, q3, Bool.or_true]⟩
  · obtain ⟨q1, q2, q3⟩ := hv
    by_cases e : v = b
    · rw [e]; exact List.mem_cons_self
    · rw [hB v q2, show (v == b) = false from beq_eq_false_iff_ne.mpr e, Bool.false_or] at q3
      exact List.mem_cons_of_mem _ ((r6 v).mpr ⟨q1, q2, q3⟩)
  · rw [List.length_cons, pcn_add hm (by omega) h2 hN, if_pos hb]; omega
  · cases List.mem_cons.mp hv with
    | inl e => rw [e, e92]; exact ha
    | inr e =>
      have hvb : v ≠ b := fun e2 => hbL (e2 ▸ e)
      rw [gn_ne (fun _ => hvb)]
      exact r8 v e
/-- every set of nodes with node 0 that isn't all is left by an edge -/
noncomputable def CNx (h0 : pm_H) (N : Nat) : Prop := ∀ m, m < 512 → isB m 0 = true → (∃ v, v < N ∧ isB m v = false) → ∃ k, k < 2 * (N - 1) ∧ isB m (gn h0 96 k) = true ∧ isB m (gn h0 96 (xr k)) = false
noncomputable def RQ (h0 : pm_H) (N : Nat) (h' : pm_H) (r : Option Value) : Prop := r = none ∧ HH h' ∧ fr_g RM h0 h' ∧ ∀ v, 1 ≤ v → v < N → dep (hg h') 8 v ∧ gn h' 92 v < N
theorem RS_end {h0 h : pm_H} {N m : Nat} {L : List Nat} (R : RS h0 h N m L) (hN : N ≤ 9) (hm : m = 2 ^ N - 1) : RQ h0 N h none := by
  obtain ⟨r1, r2, r3, r4, r5, r6, r7, r8⟩ := R
  refine ⟨rfl, r1, r2, fun v h1 h2 => ?_⟩
  have hv : v ∈ L := (r6 v).mpr ⟨by omega, h2, by rw [hm]; exact all_tab ⟨N, by omega⟩ ⟨v, by omega⟩ h2⟩
  refine ⟨?_, r8 v hv⟩
  rw [hg_gn]
  have := pcn_le m N
  exact dep_le (TL_dep r5 v hv) (by omega)
theorem ro_in {h0 : pm_H} {d N M0 : Nat} (hh0 : HH h0) (hN2 : 2 ≤ N) (hN9 : N ≤ 9) (hE : ∀ k, k < 2 * (N - 1) → gn h0 96 k < N) (K : ∀ {h : pm_H} {m : Nat} {L : List Nat} (lv : List (Nat × Value)), RS h0 h N m L → (∀ v, v < N → isB M0 v = true → isB m v = true) → (∀ k, k < 2 * (N - 1) → isB M0 (gn h0 96 k) = true → isB m (gn h0 96 (xr k)) = true) → pm_get lv 0 = some (.ref 77) → pm_get lv 1 = some (.int (nJ N)) → pm_get lv 2 = some (.int (nJ m)) → Ends (pm_at tX9_roots) (pm_Rt pm_P (d + 1)) (2, lv, [], h, 0, 0) (RQ h0 N)) (j : Nat) : ∀ {h : pm_H} {m k : Nat} {L : List Nat} (lv : List (Nat × Value)), k + j = 2 * (N - 1) → RS h0 h N m L → (∀ v, v < N → isB M0 v = true → isB m v = true) → (∀ k1, k1 < k → isB M0 (gn h0 96 k1) = true → isB m (gn h0 96 (xr k1)) = true) → pm_get lv 0 = some (.ref 77) → pm_get lv 1 = some (.int (nJ N)) → pm_get lv 2 = some (.int (nJ m)) → pm_get lv 3 = some (.int (nJ k)) → Ends (pm_at tX9_roots) (pm_Rt pm_P (d + 1)) (13, lv, [], h, 0, 0) (RQ h0 N) := by
  induction j with
  | zero =>
    intro h m k L lv hj R hsub hpr L0 L1 L2 L3
    have hm5 : m < 512 := Nat.lt_of_lt_of_le R.2.2.1 (pow_tab ⟨N, by omega⟩).2
    refine E_il rfl L3 ?_
    refine E_ci 2 rfl ci2 ?_
    refine E_il rfl L1 ?_
    refine E_ci 1 rfl ci1 ?_
    refine E_bin rfl (nJ_sub (by omega)) ?_
    refine E_bin rfl (nJ_mul _ _) ?_
    refine E_icT rfl (decide_eq_true ((nJ_le (by omega) (by omega)).mpr (by omega))) ?_
    refine E_goto rfl ?_
    exact K lv R hsub (fun k1 hk1 a => hpr k1 (by omega) a) L0 L1 L2
  | succ j ih =>
    intro h m k L lv hj R hsub hpr L0 L1 L2 L3
    have hm5 : m < 512 := Nat.lt_of_lt_of_le R.2.2.1 (pow_tab ⟨N, by omega⟩).2
    refine E_il rfl L3 ?_
    refine E_ci 2 rfl ci2 ?_
    refine E_il rfl L1 ?_
    refine E_ci 1 rfl ci1 ?_
    refine E_bin rfl (nJ_sub (by omega)) ?_
    refine E_bin rfl (nJ_mul _ _) ?_
    refine E_icF rfl (decide_eq_false (fun q => absurd ((nJ_le (by omega) (by omega)).mp q) (by omega))) ?_
    have hek := hE k (by omega)
    have hxl : xr k < 2 * (N - 1) := xr_lt (by omega)
    have hex := hE (xr k) hxl
    refine E_al rfl L0 ?_
    refine E_gr rfl R.1 (q := 96) rfl ?_
    refine E_il rfl L3 ?_
    refine E_ial rfl R.1 rfl (by omega) (by decide) (show gi h 96 k = nJ ((gn h0 96 k)) from (by rw [fr_gi R.2.1 (rg_no rfl _)]; exact gi_gn hh0 (bd_u rfl (by omega)) (by decide))) ?_
    refine E_is rfl (fun lv1 L1_4 kp1 => ?_)
    have L1_0 := kp1 0 _ (nbz rfl) rfl L0
    have L1_1 := kp1 1 _ (nbz rfl) rfl L1
    have L1_2 := kp1 2 _ (nbz rfl) rfl L2
    have L1_3 := kp1 3 _ (nbz rfl) rfl L3
    refine E_al rfl L1_0 ?_
    refine E_gr rfl R.1 (q := 96) rfl ?_
    refine E_il rfl L1_3 ?_
    refine E_ci 1 rfl ci1 ?_
    refine E_bin rfl (show nJ k ^^^ nJ 1 = nJ (xr k) from xr_tab ⟨k, by omega⟩) ?_
    refine E_ial rfl R.1 rfl (by omega) (by decide) (show gi h 96 ((xr k)) = nJ ((gn h0 96 (xr k))) from (by rw [fr_gi R.2.1 (rg_no rfl _)]; exact gi_gn hh0 (bd_u rfl (by omega)) (by decide))) ?_
    refine E_is rfl (fun lv2 L2_5 kp2 => ?_)
    have L2_0 := kp2 0 _ (nbz rfl) rfl L1_0
    have L2_1 := kp2 1 _ (nbz rfl) rfl L1_1
    have L2_2 := kp2 2 _ (nbz rfl) rfl L1_2
    have L2_3 := kp2 3 _ (nbz rfl) rfl L1_3
    have L2_4 := kp2 4 _ (nbz rfl) rfl L1_4
    refine E_il rfl L2_2 ?_
    refine E_il rfl L2_4 ?_
    refine E_call rfl (sp_isBit (by omega) (by omega)) (chkS rfl (by show 0 ≤ 8; decide)) (fun h3 r3 => ?_)
    rintro ⟨e3, f3⟩
    rw [e3, f3]
    show Ends _ _ (46, lv2, [.int (nJ (bif isB m ((gn h0 96 k)) then 1 else 0))], h, 0, 0) _
    by_cases hb4 : isB m (gn h0 96 k) = false
    · refine E_ifT rfl (by rw [hb4]; rfl) ?_
      refine E_inc rfl L2_3 (nJ_inc _) (fun lv5 L5_3 kp5 => ?_)
      have L5_0 := kp5 0 _ (nbz rfl) rfl L2_0
      have L5_1 := kp5 1 _ (nbz rfl) rfl L2_1
      have L5_2 := kp5 2 _ (nbz rfl) rfl L2_2
      have L5_4 := kp5 4 _ (nbz rfl) rfl L2_4
      have L5_5 := kp5 5 _ (nbz rfl) rfl L2_5
      refine E_goto rfl ?_
      refine ih lv5 (by omega) R hsub (fun k1 hk1 a => ?_) L5_0 L5_1 L5_2 L5_3
      by_cases hkk : k1 = k
      · subst hkk; rw [hsub _ hek a] at hb4; cases hb4
      · exact hpr k1 (by omega) a
    · refine E_ifF rfl (by rw [Bool.not_eq_false] at hb4; rw [hb4]; rfl) ?_
      refine E_il rfl L2_2 ?_
      refine E_il rfl L2_5 ?_
      refine E_call rfl (sp_isBit (by omega) (by omega)) (chkS rfl (by show 0 ≤ 8; decide)) (fun h6 r6 => ?_)
      rintro ⟨e6, f6⟩
      rw [e6, f6]
      show Ends _ _ (55, lv2, [.int (nJ (bif isB m ((gn h0 96 (xr k))) then 1 else 0))], h, 0, 0) _
      by_cases hb7 : isB m (gn h0 96 (xr k)) = false
      · refine E_ifT rfl (by rw [hb7]; rfl) ?_
        rw [Bool.not_eq_false] at hb4
        obtain ⟨m2, hm2⟩ : ∃ m2, m2 = m + 2 ^ gn h0 96 (xr k) := ⟨_, rfl⟩
        have hm2l : m2 < 512 := by rw [hm2]; exact isB_add_lt hm5 (by omega) hb7
        have hup : ∀ v, v < N → isB m v = true → isB m2 v = true := fun v hv h4 => by rw [hm2, isB_add hm5 (by omega) (by omega) hb7, h4, Bool.or_true]
        refine E_al rfl L2_0 ?_
        refine E_gr rfl R.1 (q := 92) rfl ?_
        refine E_il rfl L2_5 ?_
        refine E_il rfl L2_4 ?_
        refine E_ias rfl R.1 rfl (by omega) (by decide) ?_
        have hh8 : HH (pt h 92 ((gn h0 96 (xr k))) (nJ ((gn h0 96 k)))) := HH_ptn R.1 (bd_u rfl (by omega)) (by omega) (by omega) (by omega)
        refine E_il rfl L2_2 ?_
        refine E_ci 1 rfl ci1 ?_
        refine E_il rfl L2_5 ?_
        refine E_bin rfl rfl ?_
        refine E_bin rfl (show nJ m ||| nJ 1 <<< (nJ (gn h0 96 (xr k)) &&& 31) = nJ m2 from (by rw [hm2]; exact or_new hm5 (by omega) hb7)) ?_
        refine E_is rfl (fun lv9 L9_2 kp9 => ?_)
        have L9_0 := kp9 0 _ (nbz rfl) rfl L2_0
        have L9_1 := kp9 1 _ (nbz rfl) rfl L2_1
        have L9_3 := kp9 3 _ (nbz rfl) rfl L2_3
        have L9_4 := kp9 4 _ (nbz rfl) rfl L2_4
        have L9_5 := kp9 5 _ (nbz rfl) rfl L2_5
        refine E_inc rfl L9_3 (nJ_inc _) (fun lv10 L10_3 kp10 => ?_)
        have L10_0 := kp10 0 _ (nbz rfl) rfl L9_0
        have L10_1 := kp10 1 _ (nbz rfl) rfl L9_1
        have L10_2 := kp10 2 _ (nbz rfl) rfl L9_2
        have L10_4 := kp10 4 _ (nbz rfl) rfl L9_4
        have L10_5 := kp10 5 _ (nbz rfl) rfl L9_5
        refine E_goto rfl ?_
        refine ih lv10 (by omega) (hm2 ▸ RS_add R hN9 hek hex hb4 hb7) (fun v hv a => hup v hv (hsub v hv a)) (fun k1 hk1 a => ?_) L10_0 L10_1 L10_2 L10_3
        by_cases hkk : k1 = k
        · subst hkk; rw [hm2, isB_add hm5 (by omega) (by omega) hb7, beq_self_eq_true]; rfl
        · exact hup _ (hE _ (xr_lt (by omega))) (hpr k1 (by omega) a)
      · refine E_ifF rfl (by rw [Bool.not_eq_false] at hb7; rw [hb7]; rfl) ?_
        refine E_goto rfl ?_
        refine E_inc rfl L2_3 (nJ_inc _) (fun lv11 L11_3 kp11 => ?_)
        have L11_0 := kp11 0 _ (nbz rfl) rfl L2_0
        have L11_1 := kp11 1 _ (nbz rfl) rfl L2_1
        have L11_2 := kp11 2 _ (nbz rfl) rfl L2_2
        have L11_4 := kp11 4 _ (nbz rfl) rfl L2_4
        have L11_5 := kp11 5 _ (nbz rfl) rfl L2_5
        refine E_goto rfl ?_
        refine ih lv11 (by omega) R hsub (fun k1 hk1 a => ?_) L11_0 L11_1 L11_2 L11_3
        by_cases hkk : k1 = k
        · subst hkk; rw [Bool.not_eq_false] at hb7; exact hb7
        · exact hpr k1 (by omega) a
end
