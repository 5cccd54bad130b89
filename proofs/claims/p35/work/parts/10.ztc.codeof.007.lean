section
theorem sp_copyRow84 {h0 : pm_H} {d a b : Nat} (hh : HH h0) (ha : a ≤ 4) (hb : b ≤ 4) (hab : a ≠ b) : Sp (d + 1) 231 h0 [.ref 84, .int (nJ 6), .int (nJ a), .int (nJ b)] (fun h' r => r = none ∧ HH h' ∧ fr_g [(84, 0, 29)] h0 h' ∧ (∀ k, k < 6 → gi h' 84 (6 * b + k) = gi h0 84 (6 * a + k)) ∧ ∀ j, (j < 6 * b ∨ 6 * b + 6 ≤ j) → gi h' 84 j = gi h0 84 j) := by
  refine Sp_of aiX9_copyRow rfl rfl rfl ?_
  refine E_ci 0 rfl ci0 ?_
  refine E_is rfl (fun lv1 L1_4 kp1 => ?_)
  have L1_0 := kp1 0 _ (nbz rfl) rfl (show pm_get (lv_args 0 [.ref 84, .int (nJ 6), .int (nJ a), .int (nJ b)]) 0 = _ from rfl)
  have L1_1 := kp1 1 _ (nbz rfl) rfl (show pm_get (lv_args 0 [.ref 84, .int (nJ 6), .int (nJ a), .int (nJ b)]) 1 = _ from rfl)
  have L1_2 := kp1 2 _ (nbz rfl) rfl (show pm_get (lv_args 0 [.ref 84, .int (nJ 6), .int (nJ a), .int (nJ b)]) 2 = _ from rfl)
  have L1_3 := kp1 3 _ (nbz rfl) rfl (show pm_get (lv_args 0 [.ref 84, .int (nJ 6), .int (nJ a), .int (nJ b)]) 3 = _ from rfl)
  exact cr_loop84 hh ha hb hab 6 (k := 0) lv1 (by omega) hh (fr_rf _ _) (fun k1 h1 => absurd h1 (Nat.not_lt_zero _)) (fun _ _ => rfl) L1_0 L1_1 L1_2 L1_3 L1_4
theorem bdc_85 : ∀ a b : Fin 5, ∀ k : Fin 16, bd 85 (16 * b.val + k.val) = bd 85 (16 * a.val + k.val) ∧ (bd 85 (16 * a.val + k.val)).isSome = true := by decide +kernel
theorem cr_loop85 {h0 : pm_H} {d a b : Nat} (hh0 : HH h0) (ha : a ≤ 4) (hb : b ≤ 4) (hab : a ≠ b) (j : Nat) : ∀ {h : pm_H} {k : Nat} (lv : List (Nat × Value)), k + j = 16 → HH h → fr_g [(85, 0, 79)] h0 h → (∀ k1, k1 < k → gi h 85 (16 * b + k1) = gi h0 85 (16 * a + k1)) → (∀ j, (j < 16 * b ∨ 16 * b + 16 ≤ j) → gi h 85 j = gi h0 85 j) → pm_get lv 0 = some (.ref 85) → pm_get lv 1 = some (.int (nJ 16)) → pm_get lv 2 = some (.int (nJ a)) → pm_get lv 3 = some (.int (nJ b)) → pm_get lv 4 = some (.int (nJ k)) → Ends (pm_at tX9_copyRow) (pm_Rt pm_P d) (3, lv, [], h, 0, 0) (fun h' r => r = none ∧ HH h' ∧ fr_g [(85, 0, 79)] h0 h' ∧ (∀ k, k < 16 → gi h' 85 (16 * b + k) = gi h0 85 (16 * a + k)) ∧ ∀ j, (j < 16 * b ∨ 16 * b + 16 ≤ j) → gi h' 85 j = gi h0 85 j) := by
  induction j with
  | zero =>
    intro h k lv hj hh hfr hc ho L0 L1 L2 L3 L4
    refine E_il rfl L4 ?_
    refine E_il rfl L1 ?_
    refine E_icT rfl (decide_eq_true ((nJ_le (by omega) (by omega)).mpr (by omega))) ?_
    exact E_ret rfl ⟨rfl, hh, hfr, fun k1 h1 => hc k1 (by omega), ho⟩
  | succ j ih =>
    intro h k lv hj hh hfr hc ho L0 L1 L2 L3 L4
    refine E_il rfl L4 ?_
    refine E_il rfl L1 ?_
    refine E_icF rfl (decide_eq_false (fun q => absurd ((nJ_le (by omega) (by omega)).mp q) (by omega))) ?_
    obtain ⟨q, hq⟩ := bd_no (bdc_85 ⟨a, by omega⟩ ⟨b, by omega⟩ ⟨k, by omega⟩).2
    have hq2 : bd 85 (16 * b + k) = some q := (bdc_85 ⟨a, by omega⟩ ⟨b, by omega⟩ ⟨k, by omega⟩).1.trans hq
    have hv := (ld_gi hh0 hq).2
    refine E_al rfl L0 ?_
    refine E_il rfl L1 ?_
    refine E_il rfl L3 ?_
    refine E_bin rfl (nJ_mul _ _) ?_
    refine E_il rfl L4 ?_
    refine E_bin rfl (nJ_add _ _) ?_
    refine E_al rfl L0 ?_
    refine E_il rfl L1 ?_
    refine E_il rfl L2 ?_
    refine E_bin rfl (nJ_mul _ _) ?_
    refine E_il rfl L4 ?_
    refine E_bin rfl (nJ_add _ _) ?_
    refine E_ial rfl hh rfl (by omega) (by decide) (show gi h 85 (((16 * a) + k)) = (gi h0 85 (16 * a + k)) from ho _ (by omega)) ?_
    refine E_ias rfl hh rfl (by omega) (by decide) ?_
    have hh1 : HH (pt h 85 (((16 * b) + k)) (gi h0 85 (16 * a + k))) := HH_pt hh hq2 hv.1 hv.2
    refine E_inc rfl L4 (nJ_inc _) (fun lv2 L2_4 kp2 => ?_)
    have L2_0 := kp2 0 _ (nbz rfl) rfl L0
    have L2_1 := kp2 1 _ (nbz rfl) rfl L1
    have L2_2 := kp2 2 _ (nbz rfl) rfl L2
    have L2_3 := kp2 3 _ (nbz rfl) rfl L3
    refine E_goto rfl ?_
    refine ih lv2 (by omega) hh1 (fr_ptr (l := 0) (u := 79) rfl (by omega) (by omega) hfr) (fun k1 h1 => ?_) (fun j1 h1 => ?_) L2_0 L2_1 L2_2 L2_3 L2_4
    · by_cases e : k1 = k
      · rw [e]; exact gi_pt hh hq2 hv.1 hv.2
      · rw [gi_ne (fun _ => by omega)]; exact hc k1 (by omega)
    · rw [gi_ne (fun _ => by omega)]; exact ho j1 h1
theorem sp_copyRow85 {h0 : pm_H} {d a b : Nat} (hh : HH h0) (ha : a ≤ 4) (hb : b ≤ 4) (hab : a ≠ b) : Sp (d + 1) 231 h0 [.ref 85, .int (nJ 16), .int (nJ a), .int (nJ b)] (fun h' r => r = none ∧ HH h' ∧ fr_g [(85, 0, 79)] h0 h' ∧ (∀ k, k < 16 → gi h' 85 (16 * b + k) = gi h0 85 (16 * a + k)) ∧ ∀ j, (j < 16 * b ∨ 16 * b + 16 ≤ j) → gi h' 85 j = gi h0 85 j) := by
  refine Sp_of aiX9_copyRow rfl rfl rfl ?_
  refine E_ci 0 rfl ci0 ?_
  refine E_is rfl (fun lv1 L1_4 kp1 => ?_)
  have L1_0 := kp1 0 _ (nbz rfl) rfl (show pm_get (lv_args 0 [.ref 85, .int (nJ 16), .int (nJ a), .int (nJ b)]) 0 = _ from rfl)
  have L1_1 := kp1 1 _ (nbz rfl) rfl (show pm_get (lv_args 0 [.ref 85, .int (nJ 16), .int (nJ a), .int (nJ b)]) 1 = _ from rfl)
  have L1_2 := kp1 2 _ (nbz rfl) rfl (show pm_get (lv_args 0 [.ref 85, .int (nJ 16), .int (nJ a), .int (nJ b)]) 2 = _ from rfl)
  have L1_3 := kp1 3 _ (nbz rfl) rfl (show pm_get (lv_args 0 [.ref 85, .int (nJ 16), .int (nJ a), .int (nJ b)]) 3 = _ from rfl)
  exact cr_loop85 hh ha hb hab 16 (k := 0) lv1 (by omega) hh (fr_rf _ _) (fun k1 h1 => absurd h1 (Nat.not_lt_zero _)) (fun _ _ => rfl) L1_0 L1_1 L1_2 L1_3 L1_4
theorem bdc_86 : ∀ a b : Fin 5, ∀ k : Fin 16, bd 86 (16 * b.val + k.val) = bd 86 (16 * a.val + k.val) ∧ (bd 86 (16 * a.val + k.val)).isSome = true := by decide +kernel
theorem cr_loop86 {h0 : pm_H} {d a b : Nat} (hh0 : HH h0) (ha : a ≤ 4) (hb : b ≤ 4) (hab : a ≠ b) (j : Nat) : ∀ {h : pm_H} {k : Nat} (lv : List (Nat × Value)), k + j = 16 → HH h → fr_g [(86, 0, 79)] h0 h → (∀ k1, k1 < k → gi h 86 (16 * b + k1) = gi h0 86 (16 * a + k1)) → (∀ j, (j < 16 * b ∨ 16 * b + 16 ≤ j) → gi h 86 j = gi h0 86 j) → pm_get lv 0 = some (.ref 86) → pm_get lv 1 = some (.int (nJ 16)) → pm_get lv 2 = some (.int (nJ a)) → pm_get lv 3 = some (.int (nJ b)) → pm_get lv 4 = some (.int (nJ k)) → Ends (pm_at tX9_copyRow) (pm_Rt pm_P d) (3, lv, [], h, 0, 0) (fun h' r => r = none ∧ HH h' ∧ fr_g [(86, 0, 79)] h0 h' ∧ (∀ k, k < 16 → gi h' 86 (16 * b + k) = gi h0 86 (16 * a + k)) ∧ ∀ j, (j < 16 * b ∨ 16 * b + 16 ≤ j) → gi h' 86 j = gi h0 86 j) := by
  induction j with
  | zero =>
    intro h k lv hj hh hfr hc ho L0 L1 L2 L3 L4
    refine E_il rfl L4 ?_
    refine E_il rfl L1 ?_
    refine E_icT rfl (decide_eq_true ((nJ_le (by omega) (by omega)).mpr (by omega))) ?_
    exact E_ret rfl ⟨rfl, hh, hfr, fun k1 h1 => hc k1 (by omega), ho⟩
  | succ j ih =>
    intro h k lv hj hh hfr hc ho L0 L1 L2 L3 L4
    refine E_il rfl L4 ?_
    refine E_il rfl L1 ?_
    refine E_icF rfl (decide_eq_false (fun q => absurd ((nJ_le (by omega) (by omega)).mp q) (by omega))) ?_
    obtain ⟨q, hq⟩ := bd_no (bdc_86 ⟨a, by omega⟩ ⟨b, by omega⟩ ⟨k, by omega⟩).2
    have hq2 : bd 86 (16 * b + k) = some q := (bdc_86 ⟨a, by omega⟩ ⟨b, by omega⟩ ⟨k, by omega⟩).1.trans hq
    have hv := (ld_gi hh0 hq).2
    refine E_al rfl L0 ?_
    refine E_il rfl L1 ?_
    refine E_il rfl L3 ?_
    refine E_bin rfl (nJ_mul _ _) ?_
    refine E_il rfl L4 ?_
    refine E_bin rfl (nJ_add _ _) ?_
    refine E_al rfl L0 ?_
    refine E_il rfl L1 ?_
    refine E_il rfl L2 ?_
    refine E_bin rfl (nJ_mul _ _) ?_
    refine E_il rfl L4 ?_
    refine E_bin rfl (nJ_add _ _) ?_
    refine E_ial rfl hh rfl (by omega) (by decide) (show gi h 86 (((16 * a) + k)) = (gi h0 86 (16 * a + k)) from ho _ (by omega)) ?_
    refine E_ias rfl hh rfl (by omega) (by decide) ?_
    have hh1 : HH (pt h 86 (((16 * b) + k)) (gi h0 86 (16 * a + k))) := HH_pt hh hq2 hv.1 hv.2
    refine E_inc rfl L4 (nJ_inc _) (fun lv2 L2_4 kp2 => ?_)
    have L2_0 := kp2 0 _ (nbz rfl) rfl L0
    have L2_1 := kp2 1 _ (nbz rfl) rfl L1
    have L2_2 := kp2 2 _ (nbz rfl) rfl L2
    have L2_3 := kp2 3 _ (nbz rfl) rfl L3
    refine E_goto rfl ?_
    refine ih lv2 (by omega) hh1 (fr_ptr (l := 0) (u := 79) rfl (by omega) (by omega) hfr) (fun k1 h1 => ?_) (fun j1 h1 => ?_) L2_0 L2_1 L2_2 L2_3 L2_4
    · by_cases e : k1 = k
      · rw [e]; exact gi_pt hh hq2 hv.1 hv.2
      · rw [gi_ne (fun _ => by omega)]; exact hc k1 (by omega)
    · rw [gi_ne (fun _ => by omega)]; exact ho j1 h1
theorem sp_copyRow86 {h0 : pm_H} {d a b : Nat} (hh : HH h0) (ha : a ≤ 4) (hb : b ≤ 4) (hab : a ≠ b) : Sp (d + 1) 231 h0 [.ref 86, .int (nJ 16), .int (nJ a), .int (nJ b)] (fun h' r => r = none ∧ HH h' ∧ fr_g [(86, 0, 79)] h0 h' ∧ (∀ k, k < 16 → gi h' 86 (16 * b + k) = gi h0 86 (16 * a + k)) ∧ ∀ j, (j < 16 * b ∨ 16 * b + 16 ≤ j) → gi h' 86 j = gi h0 86 j) := by
  refine Sp_of aiX9_copyRow rfl rfl rfl ?_
  refine E_ci 0 rfl ci0 ?_
  refine E_is rfl (fun lv1 L1_4 kp1 => ?_)
  have L1_0 := kp1 0 _ (nbz rfl) rfl (show pm_get (lv_args 0 [.ref 86, .int (nJ 16), .int (nJ a), .int (nJ b)]) 0 = _ from rfl)
  have L1_1 := kp1 1 _ (nbz rfl) rfl (show pm_get (lv_args 0 [.ref 86, .int (nJ 16), .int (nJ a), .int (nJ b)]) 1 = _ from rfl)
  have L1_2 := kp1 2 _ (nbz rfl) rfl (show pm_get (lv_args 0 [.ref 86, .int (nJ 16), .int (nJ a), .int (nJ b)]) 2 = _ from rfl)
  have L1_3 := kp1 3 _ (nbz rfl) rfl (show pm_get (lv_args 0 [.ref 86, .int (nJ 16), .int (nJ a), .int (nJ b)]) 3 = _ from rfl)
  exact cr_loop86 hh ha hb hab 16 (k := 0) lv1 (by omega) hh (fr_rf _ _) (fun k1 h1 => absurd h1 (Nat.not_lt_zero _)) (fun _ _ => rfl) L1_0 L1_1 L1_2 L1_3 L1_4
theorem bdc_87 : ∀ a b : Fin 5, ∀ k : Fin 60, bd 87 (60 * b.val + k.val) = bd 87 (60 * a.val + k.val) ∧ (bd 87 (60 * a.val + k.val)).isSome = true := by decide +kernel
theorem cr_loop87 {h0 : pm_H} {d a b : Nat} (hh0 : HH h0) (ha : a ≤ 4) (hb : b ≤ 4) (hab : a ≠ b) (j : Nat) : ∀ {h : pm_H} {k : Nat} (lv : List (Nat × Value)), k + j = 60 → HH h → fr_g [(87, 0, 299)] h0 h → (∀ k1, k1 < k → gi h 87 (60 * b + k1) = gi h0 87 (60 * a + k1)) → (∀ j, (j < 60 * b ∨ 60 * b + 60 ≤ j) → gi h 87 j = gi h0 87 j) → pm_get lv 0 = some (.ref 87) → pm_get lv 1 = some (.int (nJ 60)) → pm_get lv 2 = some (.int (nJ a)) → pm_get lv 3 = some (.int (nJ b)) → pm_get lv 4 = some (.int (nJ k)) → Ends (pm_at tX9_copyRow) (pm_Rt pm_P d) (3, lv, [], h, 0, 0) (fun h' r => r = none ∧ HH h' ∧ fr_g [(87, 0, 299)] h0 h' ∧ (∀ k, k < 60 → gi h' 87 (60 * b + k) = gi h0 87 (60 * a + k)) ∧ ∀ j, (j < 60 * b ∨ 60 * b + 60 ≤ j) → gi h' 87 j = gi h0 87 j) := by
  induction j with
  | zero =>
    intro h k lv hj hh hfr hc ho L0 L1 L2 L3 L4
    refine E_il rfl L4 ?_
    refine E_il rfl L1 ?_
    refine E_icT rfl (decide_eq_true ((nJ_le (by omega) (by omega)).mpr (by omega))) ?_
    exact E_ret rfl ⟨rfl, hh, hfr, fun k1 h1 => hc k1 (by omega), ho⟩
  | succ j ih =>
    intro h k lv hj hh hfr hc ho L0 L1 L2 L3 L4
    refine E_il rfl L4 ?_
    refine E_il rfl L1 ?_
    refine E_icF rfl (decide_eq_false (fun q => absurd ((nJ_le (by omega) (by omega)).mp q) (by omega))) ?_
    obtain ⟨q, hq⟩ := bd_no (bdc_87 ⟨a, by omega⟩ ⟨b, by omega⟩ ⟨k, by omega⟩).2
    have hq2 : bd 87 (60 * b + k) = some q := (bdc_87 ⟨a, by omega⟩ ⟨b, by omega⟩ ⟨k, by omega⟩).1.trans hq
    have hv := (ld_gi hh0 hq).2
    refine E_al rfl L0 ?_
    refine E_il rfl L1 ?_
    refine E_il rfl L3 ?_
    refine E_bin rfl (nJ_mul _ _) ?_
    refine E_il rfl L4 ?_
    refine E_bin rfl (nJ_add _ _) ?_
    refine E_al rfl L0 ?_
    refine E_il rfl L1 ?_
    refine E_il rfl L2 ?_
    refine E_bin rfl (nJ_mul _ _) ?_
    refine E_il rfl L4 ?_
    refine E_bin rfl (nJ_add _ _) ?_
    refine E_ial rfl hh rfl (by omega) (by decide) (show gi h 87 (((60 * a) + k)) = (gi h0 87 (60 * a + k)) from ho _ (by omega)) ?_
    refine E_ias rfl hh rfl (by omega) (by decide) ?_
    have hh1 : HH (pt h 87 (((60 * b) + k)) (gi h0 87 (60 * a + k))) := HH_pt hh hq2 hv.1 hv.2
    refine E_inc rfl L4 (nJ_inc _) (fun lv2 L2_4 kp2 => ?_)
    have L2_0 := kp2 0 _ (nbz rfl) rfl L0
    have L2_1 := kp2 1 _ (nbz rfl) rfl L1
    have L2_2 := kp2 2 _ (nbz rfl) rfl L2
    have L2_3 := kp2 3 _ (nbz rfl) rfl L3
    refine E_goto rfl ?_
    refine ih lv2 (by omega) hh1 (fr_ptr (l := 0) (u := 299) rfl (by omega) (by omega) hfr) (fun k1 h1 => ?_) (fun j1 h1 => ?_) L2_0 L2_1 L2_2 L2_3 L2_4
    · by_cases e : k1 = k
      · rw [e]; exact gi_pt hh hq2 hv.1 hv.2
      · rw [gi_ne (fun _ => by omega)]; exact hc k1 (by omega)
    · rw [gi_ne (fun _ => by omega)]; exact ho j1 h1
theorem sp_copyRow87 {h0 : pm_H} {d a b : Nat} (hh : HH h0) (ha : a ≤ 4) (hb : b ≤ 4) (hab : a ≠ b) : Sp (d + 1) 231 h0 [.ref 87, .int (nJ 60), .int (nJ a), .int (nJ b)] (fun h' r => r = none ∧ HH h' ∧ fr_g [(87, 0, 299)] h0 h' ∧ (∀ k, k < 60 → gi h' 87 (60 * b + k) = gi h0 87 (60 * a + k)) ∧ ∀ j, (j < 60 * b ∨ 60 * b + 60 ≤ j) → gi h' 87 j = gi h0 87 j) := by
  refine Sp_of aiX9_copyRow rfl rfl rfl ?_
  refine E_ci 0 rfl ci0 ?_
  refine E_is rfl (fun lv1 L1_4 kp1 => ?_)
  have L1_0 := kp1 0 _ (nbz rfl) rfl (show pm_get (lv_args 0 [.ref 87, .int (nJ 60), .int (nJ a), .int (nJ b)]) 0 = _ from rfl)
  have L1_1 := kp1 1 _ (nbz rfl) rfl (show pm_get (lv_args 0 [.ref 87, .int (nJ 60), .int (nJ a), .int (nJ b)]) 1 = _ from rfl)
  have L1_2 := kp1 2 _ (nbz rfl) rfl (show pm_get (lv_args 0 [.ref 87, .int (nJ 60), .int (nJ a), .int (nJ b)]) 2 = _ from rfl)
  have L1_3 := kp1 3 _ (nbz rfl) rfl (show pm_get (lv_args 0 [.ref 87, .int (nJ 60), .int (nJ a), .int (nJ b)]) 3 = _ from rfl)
  exact cr_loop87 hh ha hb hab 60 (k := 0) lv1 (by omega) hh (fr_rf _ _) (fun k1 h1 => absurd h1 (Nat.not_lt_zero _)) (fun _ _ => rfl) L1_0 L1_1 L1_2 L1_3 L1_4
noncomputable def VC : List Rng := [(83, 0, 4), (84, 0, 29), (85, 0, 79), (86, 0, 79), (87, 0, 299)]
theorem gn_gi {h h' : pm_H} {a k j : Nat} (e : gi h' a k = gi h a j) : gn h' a k = gn h a j := by unfold gn; rw [e]
noncomputable def KQ (a b : Nat) (h0 h' : pm_H) (r : Option Value) : Prop := r = none ∧ HH h' ∧ fr_g VC h0 h' ∧ (RI a h0 → RI b h') ∧ (FAg a h0 → FAg b h') ∧ (∀ r, r ≤ 4 → r ≠ b → RI r h0 → RI r h') ∧ ∀ r, r ≤ 4 → r ≠ b → FAg r h0 → FAg r h'
theorem sp_copyStreet {h0 : pm_H} {d a b : Nat} (hh0 : HH h0) (ha : a ≤ 4) (hb : b ≤ 4) (hab : a ≠ b) : Sp (d + 2) 232 h0 [.ref 77, .int (nJ a), .int (nJ b)] (KQ a b h0) := by
  refine Sp_of aiX9_copyStreet rfl rfl rfl ?_
  refine E_al rfl (show pm_get (lv_args 0 [.ref 77, .int (nJ a), .int (nJ b)]) 0 = _ from rfl) ?_
  refine E_gr rfl hh0 (q := 83) rfl ?_
  refine E_ci 1 rfl ci1 ?_
  refine E_il rfl (show pm_get (lv_args 0 [.ref 77, .int (nJ a), .int (nJ b)]) 1 = _ from rfl) ?_
  refine E_il rfl (show pm_get (lv_args 0 [.ref 77, .int (nJ a), .int (nJ b)]) 2 = _ from rfl) ?_
  refine E_call rfl (Sp_le (by first | exact Nat.add_le_add_left (Nat.le_of_ble_eq_true rfl) _ | exact Nat.le_of_ble_eq_true rfl | omega) (sp_copyRow83 (d := 0) hh0 ha hb hab)) (chkS rfl (by show 0 ≤ 8; decide)) (fun h1 r1 => ?_)
  rintro ⟨e1, hh1, fq1, cq1, oq1⟩
  rw [e1]
  have fr1 : fr_g VC h0 h1 := fr_trans (fr_rf VC h0) (fr_wk rfl fq1)
  show Ends _ _ (10, (lv_args 0 [.ref 77, .int (nJ a), .int (nJ b)]), [], h1, 0, 0) _
  refine E_al rfl (show pm_get (lv_args 0 [.ref 77, .int (nJ a), .int (nJ b)]) 0 = _ from rfl) ?_
  refine E_gr rfl hh1 (q := 84) rfl ?_
  refine E_ci 6 rfl ci6 ?_
  refine E_il rfl (show pm_get (lv_args 0 [.ref 77, .int (nJ a), .int (nJ b)]) 1 = _ from rfl) ?_
  refine E_il rfl (show pm_get (lv_args 0 [.ref 77, .int (nJ a), .int (nJ b)]) 2 = _ from rfl) ?_
  refine E_call rfl (Sp_le (by first | exact Nat.add_le_add_left (Nat.le_of_ble_eq_true rfl) _ | exact Nat.le_of_ble_eq_true rfl | omega) (sp_copyRow84 (d := 0) hh1 ha hb hab)) (chkS rfl (by show 0 ≤ 8; decide)) (fun h2 r2 => ?_)
  rintro ⟨e2, hh2, fq2, cq2, oq2⟩
  rw [e2]
  have fr2 : fr_g VC h0 h2 := fr_trans fr1 (fr_wk rfl fq2)
  show Ends _ _ (21, (lv_args 0 [.ref 77, .int (nJ a), .int (nJ b)]), [], h2, 0, 0) _
  refine E_al rfl (show pm_get (lv_args 0 [.ref 77, .int (nJ a), .int (nJ b)]) 0 = _ from rfl) ?_
  refine E_gr rfl hh2 (q := 85) rfl ?_
  refine E_ci 16 rfl ci16 ?_
  refine E_il rfl (show pm_get (lv_args 0 [.ref 77, .int (nJ a), .int (nJ b)]) 1 = _ from rfl) ?_
  refine E_il rfl (show pm_get (lv_args 0 [.ref 77, .int (nJ a), .int (nJ b)]) 2 = _ from rfl) ?_
  refine E_call rfl (Sp_le (by first | exact Nat.add_le_add_left (Nat.le_of_ble_eq_true rfl) _ | exact Nat.le_of_ble_eq_true rfl | omega) (sp_copyRow85 (d := 0) hh2 ha hb hab)) (chkS rfl (by show 0 ≤ 8; decide)) (fun h3 r3 => ?_)
  rintro ⟨e3, hh3, fq3, cq3, oq3⟩
  rw [e3]
  have fr3 : fr_g VC h0 h3 := fr_trans fr2 (fr_wk rfl fq3)
  show Ends _ _ (32, (lv_args 0 [.ref 77, .int (nJ a), .int (nJ b)]), [], h3, 0, 0) _
  refine E_al rfl (show pm_get (lv_args 0 [.ref 77, .int (nJ a), .int (nJ b)]) 0 = _ from rfl) ?_
  refine E_gr rfl hh3 (q := 86) rfl ?_
  refine E_ci 16 rfl ci16 ?_
  refine E_il rfl (show pm_get (lv_args 0 [.ref 77, .int (nJ a), .int (nJ b)]) 1 = _ from rfl) ?_
  refine E_il rfl (show pm_get (lv_args 0 [.ref 77, .int (nJ a), .int (nJ b)]) 2 = _ from rfl) ?_
  refine E_call rfl (Sp_le (by first | exact Nat.add_le_add_left (Nat.le_of_ble_eq_true rfl) _ | exact Nat.le_of_ble_eq_true rfl | omega) (sp_copyRow86 (d := 0) hh3 ha hb hab)) (chkS rfl (by show 0 ≤ 8; decide)) (fun h4 r4 => ?_)
  rintro ⟨e4, hh4, fq4, cq4, oq4⟩
  rw [e4]
  have fr4 : fr_g VC h0 h4 := fr_trans fr3 (fr_wk rfl fq4)
  show Ends _ _ (43, (lv_args 0 [.ref 77, .int (nJ a), .int (nJ b)]), [], h4, 0, 0) _
  refine E_al rfl (show pm_get (lv_args 0 [.ref 77, .int (nJ a), .int (nJ b)]) 0 = _ from rfl) ?_
  refine E_gr rfl hh4 (q := 87) rfl ?_
  refine E_ci 60 rfl ci60 ?_
  refine E_il rfl (show pm_get (lv_args 0 [.ref 77, .int (nJ a), .int (nJ b)]) 1 = _ from rfl) ?_
  refine E_il rfl (show pm_get (lv_args 0 [.ref 77, .int (nJ a), .int (nJ b)]) 2 = _ from rfl) ?_
  refine E_call rfl (Sp_le (by first | exact Nat.add_le_add_left (Nat.le_of_ble_eq_true rfl) _ | exact Nat.le_of_ble_eq_true rfl | omega) (sp_copyRow87 (d := 0) hh4 ha hb hab)) (chkS rfl (by show 0 ≤ 8; decide)) (fun h5 r5 => ?_)
  rintro ⟨e5, hh5, fq5, cq5, oq5⟩
  rw [e5]
  have fr5 : fr_g VC h0 h5 := fr_trans fr4 (fr_wk rfl fq5)
  show Ends _ _ (54, (lv_args 0 [.ref 77, .int (nJ a), .int (nJ b)]), [], h5, 0, 0) _
  have c84 : ∀ k, k < 6 → gn h5 84 (6 * b + k) = gn h0 84 (6 * a + k) := fun k hk => gn_gi (by rw [fr_gi fq5 (rg_no rfl _), fr_gi fq4 (rg_no rfl _), fr_gi fq3 (rg_no rfl _)]; rw [cq2 k hk]; rw [fr_gi fq1 (rg_no rfl _)])
  have o84 : ∀ j, (j < 6 * b ∨ 6 * b + 6 ≤ j) → gn h5 84 j = gn h0 84 j := fun j hj => gn_gi (by rw [fr_gi fq5 (rg_no rfl _), fr_gi fq4 (rg_no rfl _), fr_gi fq3 (rg_no rfl _)]; rw [oq2 j hj]; rw [fr_gi fq1 (rg_no rfl _)])
  have c85 : ∀ k, k < 16 → gn h5 85 (16 * b + k) = gn h0 85 (16 * a + k) := fun k hk => gn_gi (by rw [fr_gi fq5 (rg_no rfl _), fr_gi fq4 (rg_no rfl _)]; rw [cq3 k hk]; rw [fr_gi fq2 (rg_no rfl _), fr_gi fq1 (rg_no rfl _)])
  have o85 : ∀ j, (j < 16 * b ∨ 16 * b + 16 ≤ j) → gn h5 85 j = gn h0 85 j := fun j hj => gn_gi (by rw [fr_gi fq5 (rg_no rfl _), fr_gi fq4 (rg_no rfl _)]; rw [oq3 j hj]; rw [fr_gi fq2 (rg_no rfl _), fr_gi fq1 (rg_no rfl _)])
  have c87 : ∀ k, k < 60 → gn h5 87 (60 * b + k) = gn h0 87 (60 * a + k) := fun k hk => gn_gi (by rw [cq5 k hk]; rw [fr_gi fq4 (rg_no rfl _), fr_gi fq3 (rg_no rfl _), fr_gi fq2 (rg_no rfl _), fr_gi fq1 (rg_no rfl _)])
  have o87 : ∀ j, (j < 60 * b ∨ 60 * b + 60 ≤ j) → gn h5 87 j = gn h0 87 j := fun j hj => gn_gi (by rw [oq5 j hj]; rw [fr_gi fq4 (rg_no rfl _), fr_gi fq3 (rg_no rfl _), fr_gi fq2 (rg_no rfl _), fr_gi fq1 (rg_no rfl _)])
  exact E_ret rfl ⟨rfl, hh5, fr5, RI_copy (row_b hh0 ha).1 (row_b hh0 ha).2 c84 c85 c87, FAg_copy c87, fun r hr hrb => RI_copy (row_b hh0 hr).1 (row_b hh0 hr).2 (fun k hk => o84 _ (by omega)) (fun k hk => o85 _ (by omega)) (fun k hk => o87 _ (by omega)), fun r hr hrb => FAg_copy (fun k hk => o87 _ (by omega))⟩
end
section
/-! by hand: blocks, the line of a car (written by gen_t16.py) -/
/-- blocks joined -/
noncomputable def mg (b : Nat → Nat) (x y : Nat) : Nat → Nat := fun k => if 1 ≤ k ∧ b k = max (b x) (b y) then min (b x) (b y) else b k
noncomputable def bk (e : Nat → Nat) : Nat → Nat → Nat
  | 0 => fun k => k
  | j + 1 => mg (bk e j) (e (64 + 2 * j)) (e (64 + 2 * j + 1))
noncomputable def WFb (b : Nat → Nat) : Prop := ∀ k, 1 ≤ k → k ≤ 9 → 1 ≤ b k ∧ b k ≤ k ∧ b (b k) = b k
noncomputable def Rt (b : Nat → Nat) (k : Nat) : Nat := if 1 ≤ k ∧ b k = k then 1 else 0
noncomputable def rc (b : Nat → Nat) : Nat := lc (Rt b) 10
theorem bk_eq {e e' : Nat → Nat} : ∀ {j : Nat}, (∀ i, i < 64 + 2 * j → e' i = e i) → bk e' j = bk e j
  | 0, _ => rfl
  | j + 1, h => by
    unfold bk
    rw [bk_eq (j := j) (fun i hi => h i (by omega)), h _ (by omega), h _ (by omega)]
end
