section
/-! by hand: rows copied (written by gen_t15.py) -/
/-- acts of a row: what is traded for is a car -/
noncomputable def FAg (r : Nat) (h : pm_H) : Prop := ∀ i, i < 20 → ¬ gn h 87 (60 * r + 3 * i) = 0 → gn h 87 (60 * r + 3 * i + 2) ≤ 7
noncomputable def RV (h : pm_H) : Prop := (∀ r, r < 4 → RI r h) ∧ ∀ r, r < 5 → FAg r h
theorem RI_copy {a b : Nat} {h h' : pm_H} (hc : gn h 84 (6 * a + 3) ≤ 8) (hk : gn h 84 (6 * a + 5) ≤ 20) (h1 : ∀ k, k < 6 → gn h' 84 (6 * b + k) = gn h 84 (6 * a + k)) (h2 : ∀ k, k < 16 → gn h' 85 (16 * b + k) = gn h 85 (16 * a + k)) (h3 : ∀ k, k < 60 → gn h' 87 (60 * b + k) = gn h 87 (60 * a + k)) (R : RI a h) : RI b h' := by
  obtain ⟨r1, r2, r3⟩ := R
  have e3 := h1 3 (by omega)
  have e0 := h1 0 (by omega)
  have e5 := h1 5 (by omega)
  refine ⟨?_, fun c hc' => ?_, fun k hk' => ?_⟩
  · rw [e3]
    have : gn h' 84 (6 * b) = gn h 84 (6 * a) := e0
    rw [this]; exact r1
  · rw [e3] at hc'
    rw [h2 (2 * c) (by omega)]
    exact r2 c hc'
  · rw [e5] at hk'
    have q := r3 k hk'
    have f0 := h3 (3 * k) (by omega)
    have f1 := h3 (3 * k + 1) (by omega)
    have f2 := h3 (3 * k + 2) (by omega)
    rw [show 60 * b + 3 * k + 1 = 60 * b + (3 * k + 1) by omega, show 60 * b + 3 * k + 2 = 60 * b + (3 * k + 2) by omega, f0, f1, f2, e3]
    rw [show 60 * a + (3 * k + 1) = 60 * a + 3 * k + 1 by omega, show 60 * a + (3 * k + 2) = 60 * a + 3 * k + 2 by omega]
    exact q
theorem FAg_copy {a b : Nat} {h h' : pm_H} (h3 : ∀ k, k < 60 → gn h' 87 (60 * b + k) = gn h 87 (60 * a + k)) (F : FAg a h) : FAg b h' := by
  intro i hi
  have f0 := h3 (3 * i) (by omega)
  have f2 := h3 (3 * i + 2) (by omega)
  rw [show 60 * b + 3 * i + 2 = 60 * b + (3 * i + 2) by omega, f0, f2, show 60 * a + (3 * i + 2) = 60 * a + 3 * i + 2 by omega]
  exact F i hi
theorem row_b {h : pm_H} (hh : HH h) {r : Nat} (hr : r ≤ 4) : gn h 84 (6 * r + 3) ≤ 8 ∧ gn h 84 (6 * r + 5) ≤ 20 := by
  have h3 : bd 84 (6 * r + 3) = some (0, 8) := bd_pat (p := [(0, 8), (0, 3), (0, 10), (0, 8), (0, 8), (0, 20)]) rfl (by omega) (by show [(0, 8), (0, 3), (0, 10), (0, 8), (0, 8), (0, 20)][(6 * r + 3) % 6]? = _; rw [show (6 * r + 3) % 6 = 3 by omega]; rfl)
  have h5 : bd 84 (6 * r + 5) = some (0, 20) := bd_pat (p := [(0, 8), (0, 3), (0, 10), (0, 8), (0, 8), (0, 20)]) rfl (by omega) (by show [(0, 8), (0, 3), (0, 10), (0, 8), (0, 8), (0, 20)][(6 * r + 5) % 6]? = _; rw [show (6 * r + 5) % 6 = 5 by omega]; rfl)
  exact ⟨gn_hi hh h3 (by decide), gn_hi hh h5 (by decide)⟩
/-- rows that stay -/
theorem RV_hi {h h' : pm_H} (hh : HH h) (h1 : ∀ k, k < 24 → gn h' 84 k = gn h 84 k) (h2 : ∀ k, k < 64 → gn h' 85 k = gn h 85 k) (h3 : ∀ k, gn h' 87 k = gn h 87 k) (V : RV h) : RV h' :=
  ⟨fun r hr => RI_copy (row_b hh (by omega)).1 (row_b hh (by omega)).2 (fun k hk => h1 _ (by omega)) (fun k hk => h2 _ (by omega)) (fun k _ => h3 _) (V.1 r hr), fun r hr => FAg_copy (fun k _ => h3 _) (V.2 r hr)⟩
theorem bd_no {a k : Nat} (h : (bd a k).isSome = true) : ∃ q, bd a k = some q := by
  cases hb : bd a k with
  | none => rw [hb] at h; cases h
  | some q => exact ⟨q, rfl⟩
theorem bdc_83 : ∀ a b : Fin 5, ∀ k : Fin 1, bd 83 (1 * b.val + k.val) = bd 83 (1 * a.val + k.val) ∧ (bd 83 (1 * a.val + k.val)).isSome = true := by decide +kernel
theorem cr_loop83 {h0 : pm_H} {d a b : Nat} (hh0 : HH h0) (ha : a ≤ 4) (hb : b ≤ 4) (hab : a ≠ b) (j : Nat) : ∀ {h : pm_H} {k : Nat} (lv : List (Nat × Value)), k + j = 1 → HH h → fr_g [(83, 0, 4)] h0 h → (∀ k1, k1 < k → gi h 83 (1 * b + k1) = gi h0 83 (1 * a + k1)) → (∀ j, (j < 1 * b ∨ 1 * b + 1 ≤ j) → gi h 83 j = gi h0 83 j) → pm_get lv 0 = some (.ref 83) → pm_get lv 1 = some (.int (nJ 1)) → pm_get lv 2 = some (.int (nJ a)) → pm_get lv 3 = some (.int (nJ b)) → pm_get lv 4 = some (.int (nJ k)) → Ends (pm_at tX9_copyRow) (pm_Rt pm_P d) (3, lv, [], h, 0, 0) (fun h' r => r = none ∧ HH h' ∧ fr_g [(83, 0, 4)] h0 h' ∧ (∀ k, k < 1 → gi h' 83 (1 * b + k) = gi h0 83 (1 * a + k)) ∧ ∀ j, (j < 1 * b ∨ 1 * b + 1 ≤ j) → gi h' 83 j = gi h0 83 j) := by
  induction j with
  | zero =>
    intro h k lv hj hh hfr hc ho L0 L1 L2 L3 L4
    refine E_il rfl L4 ?_
    refine E_il rfl L1 ?_
    refine E_icT rfl (decide_eq_true ((nJ_le (by omega) (by omega)).mpr (by omega))) ?_
    exact E_ret rfl ⟨rfl, hh, hfr, fun k1 h1 => hc k1 (by omega), ho⟩
  | succ j ih =>
    intro h k lv hj hh hfr hc ho L0 L1 L2 L3 L4
    refine E_il rfl L4 ?_
    refine E_il rfl L1 ?_
    refine E_icF rfl (decide_eq_false (fun q => absurd ((nJ_le (by omega) (by omega)).mp q) (by omega))) ?_
    obtain ⟨q, hq⟩ := bd_no (bdc_83 ⟨a, by omega⟩ ⟨b, by omega⟩ ⟨k, by omega⟩).2
    have hq2 : bd 83 (1 * b + k) = some q := (bdc_83 ⟨a, by omega⟩ ⟨b, by omega⟩ ⟨k, by omega⟩).1.trans hq
    have hv := (ld_gi hh0 hq).2
    refine E_al rfl L0 ?_
    refine E_il rfl L1 ?_
    refine E_il rfl L3 ?_
    refine E_bin rfl (nJ_mul _ _) ?_
    refine E_il rfl L4 ?_
    refine E_bin rfl (nJ_add _ _) ?_
    refine E_al rfl L0 ?_
    refine E_il rfl L1 ?_
    refine E_il rfl L2 ?_
    refine E_bin rfl (nJ_mul _ _) ?_
    refine E_il rfl L4 ?_
    refine E_bin rfl (nJ_add _ _) ?_
    refine E_ial rfl hh rfl (by omega) (by decide) (show gi h 83 (((1 * a) + k)) = (gi h0 83 (1 * a + k)) from ho _ (by omega)) ?_
    refine E_ias rfl hh rfl (by omega) (by decide) ?_
    have hh1 : HH (pt h 83 (((1 * b) + k)) (gi h0 83 (1 * a + k))) := HH_pt hh hq2 hv.1 hv.2
    refine E_inc rfl L4 (nJ_inc _) (fun lv2 L2_4 kp2 => ?_)
    have L2_0 := kp2 0 _ (by decide) rfl L0
    have L2_1 := kp2 1 _ (by decide) rfl L1
    have L2_2 := kp2 2 _ (by decide) rfl L2
    have L2_3 := kp2 3 _ (by decide) rfl L3
    refine E_goto rfl ?_
    refine ih lv2 (by omega) hh1 (fr_ptr (l := 0) (u := 4) rfl (by omega) (by omega) hfr) (fun k1 h1 => ?_) (fun j1 h1 => ?_) L2_0 L2_1 L2_2 L2_3 L2_4
    · by_cases e : k1 = k
      · rw [e]; exact gi_pt hh hq2 hv.1 hv.2
      · rw [gi_ne (fun _ => by omega)]; exact hc k1 (by omega)
    · rw [gi_ne (fun _ => by omega)]; exact ho j1 h1
theorem sp_copyRow83 {h0 : pm_H} {d a b : Nat} (hh : HH h0) (ha : a ≤ 4) (hb : b ≤ 4) (hab : a ≠ b) : Sp (d + 1) 231 h0 [.ref 83, .int (nJ 1), .int (nJ a), .int (nJ b)] (fun h' r => r = none ∧ HH h' ∧ fr_g [(83, 0, 4)] h0 h' ∧ (∀ k, k < 1 → gi h' 83 (1 * b + k) = gi h0 83 (1 * a + k)) ∧ ∀ j, (j < 1 * b ∨ 1 * b + 1 ≤ j) → gi h' 83 j = gi h0 83 j) := by
  refine Sp_of aiX9_copyRow rfl rfl rfl ?_
  refine E_ci 0 rfl (by decide) ?_
  refine E_is rfl (fun lv1 L1_4 kp1 => ?_)
  have L1_0 := kp1 0 _ (by decide) rfl (show pm_get (lv_args 0 [.ref 83, .int (nJ 1), .int (nJ a), .int (nJ b)]) 0 = _ from rfl)
  have L1_1 := kp1 1 _ (by decide) rfl (show pm_get (lv_args 0 [.ref 83, .int (nJ 1), .int (nJ a), .int (nJ b)]) 1 = _ from rfl)
  have L1_2 := kp1 2 _ (by decide) rfl (show pm_get (lv_args 0 [.ref 83, .int (nJ 1), .int (nJ a), .int (nJ b)]) 2 = _ from rfl)
  have L1_3 := kp1 3 _ (by decide) rfl (show pm_get (lv_args 0 [.ref 83, .int (nJ 1), .int (nJ a), .int (nJ b)]) 3 = _ from rfl)
  exact cr_loop83 hh ha hb hab 1 (k := 0) lv1 (by omega) hh (fr_rf _ _) (fun k1 h1 => absurd h1 (Nat.not_lt_zero _)) (fun _ _ => rfl) L1_0 L1_1 L1_2 L1_3 L1_4
theorem bdc_84 : ∀ a b : Fin 5, ∀ k : Fin 6, bd 84 (6 * b.val + k.val) = bd 84 (6 * a.val + k.val) ∧ (bd 84 (6 * a.val + k.val)).isSome = true := by decide +kernel
theorem cr_loop84 {h0 : pm_H} {d a b : Nat} (hh0 : HH h0) (ha : a ≤ 4) (hb : b ≤ 4) (hab : a ≠ b) (j : Nat) : ∀ {h : pm_H} {k : Nat} (lv : List (Nat × Value)), k + j = 6 → HH h → fr_g [(84, 0, 29)] h0 h → (∀ k1, k1 < k → gi h 84 (6 * b + k1) = gi h0 84 (6 * a + k1)) → (∀ j, (j < 6 * b ∨ 6 * b + 6 ≤ j) → gi h 84 j = gi h0 84 j) → pm_get lv 0 = some (.ref 84) → pm_get lv 1 = some (.int (nJ 6)) → pm_get lv 2 = some (.int (nJ a)) → pm_get lv 3 = some (.int (nJ b)) → pm_get lv 4 = some (.int (nJ k)) → Ends (pm_at tX9_copyRow) (pm_Rt pm_P d) (3, lv, [], h, 0, 0) (fun h' r => r = none ∧ HH h' ∧ fr_g [(84, 0, 29)] h0 h' ∧ (∀ k, k < 6 → gi h' 84 (6 * b + k) = gi h0 84 (6 * a + k)) ∧ ∀ j, (j < 6 * b ∨ 6 * b + 6 ≤ j) → gi h' 84 j = gi h0 84 j) := by
  induction j with
  | zero =>
    intro h k lv hj hh hfr hc ho L0 L1 L2 L3 L4
    refine E_il rfl L4 ?_
    refine E_il rfl L1 ?_
    refine E_icT rfl (decide_eq_true ((nJ_le (by omega) (by omega)).mpr (by omega))) ?_
    exact E_ret rfl ⟨rfl, hh, hfr, fun k1 h1 => hc k1 (by omega), ho⟩
  | succ j ih =>
    intro h k lv hj hh hfr hc ho L0 L1 L2 L3 L4
    refine E_il rfl L4 ?_
    refine E_il rfl L1 ?_
    refine E_icF rfl (decide_eq_false (fun q => absurd ((nJ_le (by omega) (by omega)).mp q) (by omega))) ?_
    obtain ⟨q, hq⟩ := bd_no (bdc_84 ⟨a, by omega⟩ ⟨b, by omega⟩ ⟨k, by omega⟩).2
    have hq2 : bd 84 (6 * b + k) = some q := (bdc_84 ⟨a, by omega⟩ ⟨b, by omega⟩ ⟨k, by omega⟩).1.trans hq
    have hv := (ld_gi hh0 hq).2
    refine E_al rfl L0 ?_
    refine E_il rfl L1 ?_
    refine E_il rfl L3 ?_
    refine E_bin rfl (nJ_mul _ _) ?_
    refine E_il rfl L4 ?_
    refine E_bin rfl (nJ_add _ _) ?_
    refine E_al rfl L0 ?_
    refine E_il rfl L1 ?_
    refine E_il rfl L2 ?_
    refine E_bin rfl (nJ_mul _ _) ?_
    refine E_il rfl L4 ?_
    refine E_bin rfl (nJ_add _ _) ?_
    refine E_ial rfl hh rfl (by omega) (by decide) (show gi h 84 (((6 * a) + k)) = (gi h0 84 (6 * a + k)) from ho _ (by omega)) ?_
    refine E_ias rfl hh rfl (by omega) (by decide) ?_
    have hh1 : HH (pt h 84 (((6 * b) + k)) (gi h0 84 (6 * a + k))) := HH_pt hh hq2 hv.1 hv.2
    refine E_inc rfl L4 (nJ_inc _) (fun lv2 L2_4 kp2 => ?_)
    have L2_0 := kp2 0 _ (by decide) rfl L0
    have L2_1 := kp2 1 _ (by decide) rfl L1
    have L2_2 := kp2 2 _ (by decide) rfl L2
    have L2_3 := kp2 3 _ (by decide) rfl L3
    refine E_goto rfl ?_
    refine ih lv2 (by omega) hh1 (fr_ptr (l := 0) (u := 29) rfl (by omega) (by omega) hfr) (fun k1 h1 => ?_) (fun j1 h1 => ?_) L2_0 L2_1 L2_2 L2_3 L2_4
    · by_cases e : k1 = k
      · rw [e]; exact gi_pt hh hq2 hv.1 hv.2
      · rw [gi_ne (fun _ => by omega)]; exact hc k1 (by omega)
    · rw [gi_ne (fun _ => by omega)]; exact ho j1 h1
theorem sp_copyRow84 {h0 : pm_H} {d a b : Nat} (hh : HH h0) (ha : a ≤ 4) (hb : b ≤ 4) (hab : a ≠ b) : Sp (d + 1) 231 h0 [.ref 84, .int (nJ 6), .int (nJ a), .int (nJ b)] (fun h' r => r = none ∧ HH h' ∧ fr_g [(84, 0, 29)] h0 h' ∧ (∀ k, k < 6 → gi h' 84 (6 * b + k) = gi h0 84 (6 * a + k)) ∧ ∀ j, (j < 6 * b ∨ 6 * b + 6 ≤ j) → gi h' 84 j = gi h0 84 j) := by
  refine Sp_of aiX9_copyRow rfl rfl rfl ?_
  refine E_ci 0 rfl (by decide) ?_
  refine E_is rfl (fun lv1 L1_4 kp1 => ?_)
  have L1_0 := kp1 0 _ (by decide) rfl (show pm_get (lv_args 0 [.ref 84, .int (nJ 6), .int (nJ a), .int (nJ b)]) 0 = _ from rfl)
  have L1_1 := kp1 1 _ (by decide) rfl (show pm_get (lv_args 0 [.ref 84, .int (nJ 6), .int (nJ a), .int (nJ b)]) 1 = _ from rfl)
  have L1_2 := kp1 2 _ (by decide) rfl (show pm_get (lv_args 0 [.ref 84, .int (nJ 6), .int (nJ a), .int (nJ b)]) 2 = _ from rfl)
  have L1_3 := kp1 3 _ (by decide) rfl (show pm_get (lv_args 0 [.ref 84, .int (nJ 6), .int (nJ a), .int (nJ b)]) 3 = _ from rfl)
  exact cr_loop84 hh ha hb hab 6 (k := 0) lv1 (by omega) hh (fr_rf _ _) (fun k1 h1 => absurd h1 (Nat.not_lt_zero _)) (fun _ _ => rfl) L1_0 L1_1 L1_2 L1_3 L1_4
end
