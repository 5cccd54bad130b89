section
theorem bdc_85 : ∀ a b : Fin 5, ∀ k : Fin 16, bd 85 (16 * b.val + k.val) = bd 85 (16 * a.val + k.val) ∧ (bd 85 (16 * a.val + k.val)).isSome = true := by decide +kernel
theorem cr_loop85 {h0 : pm_H} {d a b : Nat} (hh0 : HH h0) (ha : a ≤ 4) (hb : b ≤ 4) (hab : a ≠ b) (j : Nat) : ∀ {h : pm_H} {k : Nat} (lv : List (Nat × Value)), k + j = 16 → HH h → fr_g [(85, 0, 79)] h0 h → (∀ k1, k1 < k → gi h 85 (16 * b + k1) = gi h0 85 (16 * a + k1)) → (∀ j, (j < 16 * b ∨ 16 * b + 16 ≤ j) → gi h 85 j = gi h0 85 j) → pm_get lv 0 = some (.ref 85) → pm_get lv 1 = some (.int (nJ 16)) → pm_get lv 2 = some (.int (nJ a)) → pm_get lv 3 = some (.int (nJ b)) → pm_get lv 4 = some (.int (nJ k)) → Ends (pm_at tX9_copyRow) (pm_Rt pm_P d) (3, lv, [], h, 0, 0) (fun h' r => r = none ∧ HH h' ∧ fr_g [(85, 0, 79)] h0 h' ∧ (∀ k, k < 16 → gi h' 85 (16 * b + k) = gi h0 85 (16 * a + k)) ∧ ∀ j, (j < 16 * b ∨ 16 * b + 16 ≤ j) → gi h' 85 j = gi h0 85 j) := by
  induction j with
  | zero =>
    intro h k lv hj hh hfr hc ho L0 L1 L2 L3 L4
    refine E_il rfl L4 ?_
    refine E_il rfl L1 ?_
    refine E_icT rfl (decide_eq_true ((nJ_le (by omega) (by omega)).mpr (by omega))) ?_
    exact E_ret rfl ⟨rfl, hh, hfr, fun k1 h1 => hc k1 (by omega), ho⟩
  | succ j ih =>
    intro h k lv hj hh hfr hc ho L0 L1 L2 L3 L4
    refine E_il rfl L4 ?_
    refine E_il rfl L1 ?_
    refine E_icF rfl (decide_eq_false (fun q => absurd ((nJ_le (by omega) (by omega)).mp q) (by omega))) ?_
    obtain ⟨q, hq⟩ := bd_no (bdc_85 ⟨a, by omega⟩ ⟨b, by omega⟩ ⟨k, by omega⟩).2
    have hq2 : bd 85 (16 * b + k) = some q := (bdc_85 ⟨a, by omega⟩ ⟨b, by omega⟩ ⟨k, by omega⟩).1.trans hq
    have hv := (ld_gi hh0 hq).2
    refine E_al rfl L0 ?_
    refine E_il rfl L1 ?_
    refine E_il rfl L3 ?_
    refine E_bin rfl (nJ_mul _ _) ?_
    refine E_il rfl L4 ?_
    refine E_bin rfl (nJ_add _ _) ?_
    refine E_al rfl L0 ?_
    refine E_il rfl L1 ?_
    refine E_il rfl L2 ?_
    refine E_bin rfl (nJ_mul _ _) ?_
    refine E_il rfl L4 ?_
    refine E_bin rfl (nJ_add _ _) ?_
    refine E_ial rfl hh rfl (by omega) (by decide) (show gi h 85 (((16 * a) + k)) = (gi h0 85 (16 * a + k)) from ho _ (by omega)) ?_
    refine E_ias rfl hh rfl (by omega) (by decide) ?_
    have hh1 : HH (pt h 85 (((16 * b) + k)) (gi h0 85 (16 * a + k))) := HH_pt hh hq2 hv.1 hv.2
    refine E_inc rfl L4 (nJ_inc _) (fun lv2 L2_4 kp2 => ?_)
    have L2_0 := kp2 0 _ (by decide) rfl L0
    have L2_1 := kp2 1 _ (by decide) rfl L1
    have L2_2 := kp2 2 _ (by decide) rfl L2
    have L2_3 := kp2 3 _ (by decide) rfl L3
    refine E_goto rfl ?_
    refine ih lv2 (by omega) hh1 (fr_ptr (l := 0) (u := 79) rfl (by omega) (by omega) hfr) (fun k1 h1 => ?_) (fun j1 h1 => ?_) L2_0 L2_1 L2_2 L2_3 L2_4
    · by_cases e : k1 = k
      · rw [e]; exact gi_pt hh hq2 hv.1 hv.2
      · rw [gi_ne (fun _ => by omega)]; exact hc k1 (by omega)
    · rw [gi_ne (fun _ => by omega)]; exact ho j1 h1
theorem sp_copyRow85 {h0 : pm_H} {d a b : Nat} (hh : HH h0) (ha : a ≤ 4) (hb : b ≤ 4) (hab : a ≠ b) : Sp (d + 1) 231 h0 [.ref 85, .int (nJ 16), .int (nJ a), .int (nJ b)] (fun h' r => r = none ∧ HH h' ∧ fr_g [(85, 0, 79)] h0 h' ∧ (∀ k, k < 16 → gi h' 85 (16 * b + k) = gi h0 85 (16 * a + k)) ∧ ∀ j, (j < 16 * b ∨ 16 * b + 16 ≤ j) → gi h' 85 j = gi h0 85 j) := by
  refine Sp_of aiX9_copyRow rfl rfl rfl ?_
  refine E_ci 0 rfl (by decide) ?_
  refine E_is rfl (fun lv1 L1_4 kp1 => ?_)
  have L1_0 := kp1 0 _ (by decide) rfl (show pm_get (lv_args 0 [.ref 85, .int (nJ 16), .int (nJ a), .int (nJ b)]) 0 = _ from rfl)
  have L1_1 := kp1 1 _ (by decide) rfl (show pm_get (lv_args 0 [.ref 85, .int (nJ 16), .int (nJ a), .int (nJ b)]) 1 = _ from rfl)
  have L1_2 := kp1 2 _ (by decide) rfl (show pm_get (lv_args 0 [.ref 85, .int (nJ 16), .int (nJ a), .int (nJ b)]) 2 = _ from rfl)
  have L1_3 := kp1 3 _ (by decide) rfl (show pm_get (lv_args 0 [.ref 85, .int (nJ 16), .int (nJ a), .int (nJ b)]) 3 = _ from rfl)
  exact cr_loop85 hh ha hb hab 16 (k := 0) lv1 (by omega) hh (fr_rf _ _) (fun k1 h1 => absurd h1 (Nat.not_lt_zero _)) (fun _ _ => rfl) L1_0 L1_1 L1_2 L1_3 L1_4
theorem bdc_86 : ∀ a b : Fin 5, ∀ k : Fin 16, bd 86 (16 * b.val + k.val) = bd 86 (16 * a.val + k.val) ∧ (bd 86 (16 * a.val + k.val)).isSome = true := by decide +kernel
theorem cr_loop86 {h0 : pm_H} {d a b : Nat} (hh0 : HH h0) (ha : a ≤ 4) (hb : b ≤ 4) (hab : a ≠ b) (j : Nat) : ∀ {h : pm_H} {k : Nat} (lv : List (Nat × Value)), k + j = 16 → HH h → fr_g [(86, 0, 79)] h0 h → (∀ k1, k1 < k → gi h 86 (16 * b + k1) = gi h0 86 (16 * a + k1)) → (∀ j, (j < 16 * b ∨ 16 * b + 16 ≤ j) → gi h 86 j = gi h0 86 j) → pm_get lv 0 = some (.ref 86) → pm_get lv 1 = some (.int (nJ 16)) → pm_get lv 2 = some (.int (nJ a)) → pm_get lv 3 = some (.int (nJ b)) → pm_get lv 4 = some (.int (nJ k)) → Ends (pm_at tX9_copyRow) (pm_Rt pm_P d) (3, lv, [], h, 0, 0) (fun h' r => r = none ∧ HH h' ∧ fr_g [(86, 0, 79)] h0 h' ∧ (∀ k, k < 16 → gi h' 86 (16 * b + k) = gi h0 86 (16 * a + k)) ∧ ∀ j, (j < 16 * b ∨ 16 * b + 16 ≤ j) → gi h' 86 j = gi h0 86 j) := by
  induction j with
  | zero =>
    intro h k lv hj hh hfr hc ho L0 L1 L2 L3 L4
    refine E_il rfl L4 ?_
    refine E_il rfl L1 ?_
    refine E_icT rfl (decide_eq_true ((nJ_le (by omega) (by omega)).mpr (by omega))) ?_
    exact E_ret rfl ⟨rfl, hh, hfr, fun k1 h1 => hc k1 (by omega), ho⟩
  | succ j ih =>
    intro h k lv hj hh hfr hc ho L0 L1 L2 L3 L4
    refine E_il rfl L4 ?_
    refine E_il rfl L1 ?_
    refine E_icF rfl (decide_eq_false (fun q => absurd ((nJ_le (by omega) (by omega)).mp q) (by omega))) ?_
    obtain ⟨q, hq⟩ := bd_no (bdc_86 ⟨a, by omega⟩ ⟨b, by omega⟩ ⟨k, by omega⟩).2
    have hq2 : bd 86 (16 * b + k) = some q := (bdc_86 ⟨a, by omega⟩ ⟨b, by omega⟩ ⟨k, by omega⟩).1.trans hq
    have hv := (ld_gi hh0 hq).2
    refine E_al rfl L0 ?_
    refine E_il rfl L1 ?_
    refine E_il rfl L3 ?_
    refine E_bin rfl (nJ_mul _ _) ?_
    refine E_il rfl L4 ?_
    refine E_bin rfl (nJ_add _ _) ?_
    refine E_al rfl L0 ?_
    refine E_il rfl L1 ?_
    refine E_il rfl L2 ?_
    refine E_bin rfl (nJ_mul _ _) ?_
    refine E_il rfl L4 ?_
    refine E_bin rfl (nJ_add _ _) ?_
    refine E_ial rfl hh rfl (by omega) (by decide) (show gi h 86 (((16 * a) + k)) = (gi h0 86 (16 * a + k)) from ho _ (by omega)) ?_
    refine E_ias rfl hh rfl (by omega) (by decide) ?_
    have hh1 : HH (pt h 86 (((16 * b) + k)) (gi h0 86 (16 * a + k))) := HH_pt hh hq2 hv.1 hv.2
    refine E_inc rfl L4 (nJ_inc _) (fun lv2 L2_4 kp2 => ?_)
    have L2_0 := kp2 0 _ (by decide) rfl L0
    have L2_1 := kp2 1 _ (by decide) rfl L1
    have L2_2 := kp2 2 _ (by decide) rfl L2
    have L2_3 := kp2 3 _ (by decide) rfl L3
    refine E_goto rfl ?_
    refine ih lv2 (by omega) hh1 (fr_ptr (l := 0) (u := 79) rfl (by omega) (by omega) hfr) (fun k1 h1 => ?_) (fun j1 h1 => ?_) L2_0 L2_1 L2_2 L2_3 L2_4
    · by_cases e : k1 = k
      · rw [e]; exact gi_pt hh hq2 hv.1 hv.2
      · rw [gi_ne (fun _ => by omega)]; exact hc k1 (by omega)
    · rw [gi_ne (fun _ => by omega)]; exact ho j1 h1
theorem sp_copyRow86 {h0 : pm_H} {d a b : Nat} (hh : HH h0) (ha : a ≤ 4) (hb : b ≤ 4) (hab : a ≠ b) : Sp (d + 1) 231 h0 [.ref 86, .int (nJ 16), .int (nJ a), .int (nJ b)] (fun h' r => r = none ∧ HH h' ∧ fr_g [(86, 0, 79)] h0 h' ∧ (∀ k, k < 16 → gi h' 86 (16 * b + k) = gi h0 86 (16 * a + k)) ∧ ∀ j, (j < 16 * b ∨ 16 * b + 16 ≤ j) → gi h' 86 j = gi h0 86 j) := by
  refine Sp_of aiX9_copyRow rfl rfl rfl ?_
  refine E_ci 0 rfl (by decide) ?_
  refine E_is rfl (fun lv1 L1_4 kp1 => ?_)
  have L1_0 := kp1 0 _ (by decide) rfl (show pm_get (lv_args 0 [.ref 86, .int (nJ 16), .int (nJ a), .int (nJ b)]) 0 = _ from rfl)
  have L1_1 := kp1 1 _ (by decide) rfl (show pm_get (lv_args 0 [.ref 86, .int (nJ 16), .int (nJ a), .int (nJ b)]) 1 = _ from rfl)
  have L1_2 := kp1 2 _ (by decide) rfl (show pm_get (lv_args 0 [.ref 86, .int (nJ 16), .int (nJ a), .int (nJ b)]) 2 = _ from rfl)
  have L1_3 := kp1 3 _ (by decide) rfl (show pm_get (lv_args 0 [.ref 86, .int (nJ 16), .int (nJ a), .int (nJ b)]) 3 = _ from rfl)
  exact cr_loop86 hh ha hb hab 16 (k := 0) lv1 (by omega) hh (fr_rf _ _) (fun k1 h1 => absurd h1 (Nat.not_lt_zero _)) (fun _ _ => rfl) L1_0 L1_1 L1_2 L1_3 L1_4
theorem bdc_87 : ∀ a b : Fin 5, ∀ k : Fin 60, bd 87 (60 * b.val + k.val) = bd 87 (60 * a.val + k.val) ∧ (bd 87 (60 * a.val + k.val)).isSome = true := by decide +kernel
theorem cr_loop87 {h0 : pm_H} {d a b : Nat} (hh0 : HH h0) (ha : a ≤ 4) (hb : b ≤ 4) (hab : a ≠ b) (j : Nat) : ∀ {h : pm_H} {k : Nat} (lv : List (Nat × Value)), k + j = 60 → HH h → fr_g [(87, 0, 299)] h0 h → (∀ k1, k1 < k → gi h 87 (60 * b + k1) = gi h0 87 (60 * a + k1)) → (∀ j, (j < 60 * b ∨ 60 * b + 60 ≤ j) → gi h 87 j = gi h0 87 j) → pm_get lv 0 = some (.ref 87) → pm_get lv 1 = some (.int (nJ 60)) → pm_get lv 2 = some (.int (nJ a)) → pm_get lv 3 = some (.int (nJ b)) → pm_get lv 4 = some (.int (nJ k)) → Ends (pm_at tX9_copyRow) (pm_Rt pm_P d) (3, lv, [], h, 0, 0) (fun h' r => r = none ∧ HH h' ∧ fr_g [(87, 0, 299)] h0 h' ∧ (∀ k, k < 60 → gi h' 87 (60 * b + k) = gi h0 87 (60 * a + k)) ∧ ∀ j, (j < 60 * b ∨ 60 * b + 60 ≤ j) → gi h' 87 j = gi h0 87 j) := by
  induction j with
  | zero =>
    intro h k lv hj hh hfr hc ho L0 L1 L2 L3 L4
    refine E_il rfl L4 ?_
    refine E_il rfl L1 ?_
    refine E_icT rfl (decide_eq_true ((nJ_le (by omega) (by omega)).mpr (by omega))) ?_
    exact E_ret rfl ⟨rfl, hh, hfr, fun k1 h1 => hc k1 (by omega), ho⟩
  | succ j ih =>
    intro h k lv hj hh hfr hc ho L0 L1 L2 L3 L4
    refine E_il rfl L4 ?_
    refine E_il rfl L1 ?_
    refine E_icF rfl (decide_eq_false (fun q => absurd ((nJ_le (by omega) (by omega)).mp q) (by omega))) ?_
    obtain ⟨q, hq⟩ := bd_no (bdc_87 ⟨a, by omega⟩ ⟨b, by omega⟩ ⟨k, by omega⟩).2
    have hq2 : bd 87 (60 * b + k) = some q := (bdc_87 ⟨a, by omega⟩ ⟨b, by omega⟩ ⟨k, by omega⟩).1.trans hq
    have hv := (ld_gi hh0 hq).2
    refine E_al rfl L0 ?_
    refine E_il rfl L1 ?_
    refine E_il rfl L3 ?_
    refine E_bin rfl (nJ_mul _ _) ?_
    refine E_il rfl L4 ?_
    refine E_bin rfl (nJ_add _ _) ?_
    refine E_al rfl L0 ?_
    refine E_il rfl L1 ?_
    refine E_il rfl L2 ?_
    refine E_bin rfl (nJ_mul _ _) ?_
    refine E_il rfl L4 ?_
    refine E_bin rfl (nJ_add _ _) ?_
    refine E_ial rfl hh rfl (by omega) (by decide) (show gi h 87 (((60 * a) + k)) = (gi h0 87 (60 * a + k)) from ho _ (by omega)) ?_
    refine E_ias rfl hh rfl (by omega) (by decide) ?_
    have hh1 : HH (pt h 87 (((60 * b) + k)) (gi h0 87 (60 * a + k))) := HH_pt hh hq2 hv.1 hv.2
    refine E_inc rfl L4 (nJ_inc _) (fun lv2 L2_4 kp2 => ?_)
    have L2_0 := kp2 0 _ (by decide) rfl L0
    have L2_1 := kp2 1 _ (by decide) rfl L1
    have L2_2 := kp2 2 _ (by decide) rfl L2
    have L2_3 := kp2 3 _ (by decide) rfl L3
    refine E_goto rfl ?_
    refine ih lv2 (by omega) hh1 (fr_ptr (l := 0) (u := 299) rfl (by omega) (by omega) hfr) (fun k1 h1 => ?_) (fun j1 h1 => ?_) L2_0 L2_1 L2_2 L2_3 L2_4
    · by_cases e : k1 = k
      · rw [e]; exact gi_pt hh hq2 hv.1 hv.2
      · rw [gi_ne (fun _ => by omega)]; exact hc k1 (by omega)
    · rw [gi_ne (fun _ => by omega)]; exact ho j1 h1
end
