section
theorem rc_pos {b : Nat → Nat} (W : WFb b) : 1 ≤ rc b := by
  by_cases h : rc b = 0
  · exfalso
    have := lc_zero h 1 (by omega)
    have w1 := W 1 (by omega) (by omega)
    unfold Rt at this
    rw [if_pos ⟨by omega, by omega⟩] at this
    cases this
  · omega
theorem WFb_bk {e : Nat → Nat} : ∀ {j : Nat}, (∀ i, i < j → (1 ≤ e (64 + 2 * i) ∧ e (64 + 2 * i) ≤ 9) ∧ (1 ≤ e (64 + 2 * i + 1) ∧ e (64 + 2 * i + 1) ≤ 9)) → WFb (bk e j)
  | 0, _ => fun k k1 _ => ⟨k1, Nat.le_refl _, rfl⟩
  | j + 1, h => by
    have ih := WFb_bk (e := e) (j := j) (fun i hi => h i (by omega))
    have hj := h j (by omega)
    exact WFb_mg ih hj.1.1 hj.1.2 hj.2.1 hj.2.2
noncomputable def JN (h : pm_H) : Prop := gn h 84 28 ≤ 8 ∧ (∀ i, i < gn h 84 28 → 1 ≤ gn h 86 (64 + 2 * i) ∧ 1 ≤ gn h 86 (64 + 2 * i + 1)) ∧ rc (bk (gn h 86) (gn h 84 28)) + gn h 84 28 = 9
theorem JN_wf {h : pm_H} (hh : HH h) (J : JN h) : WFb (bk (gn h 86) (gn h 84 28)) := WFb_bk (fun i hi => by
  have := J.1
  have q := J.2.1 i hi
  exact ⟨⟨q.1, gn_hi hh (bd_u rfl (by omega)) (by decide)⟩, q.2, gn_hi hh (bd_u rfl (by omega)) (by decide)⟩)
noncomputable def KM : List Rng := [(101, 0, 9)]
theorem sp_lessOf {h : pm_H} {d a b : Nat} (ha : a < 1000) (hb : b < 1000) : Sp (d + 1) 301 h [.int (nJ a), .int (nJ b)] (fun h' r => h' = h ∧ r = some (.int (nJ (min a b)))) := by
  refine Sp_of aiX9_lessOf rfl rfl rfl ?_
  refine E_il rfl (show pm_get (lv_args 0 [.int (nJ a), .int (nJ b)]) 0 = _ from rfl) ?_
  refine E_il rfl (show pm_get (lv_args 0 [.int (nJ a), .int (nJ b)]) 1 = _ from rfl) ?_
  by_cases hb1 : b ≤ a
  · refine E_icT rfl (decide_eq_true ((nJ_le (by omega) (by omega)).mpr hb1)) ?_
    refine E_il rfl (show pm_get (lv_args 0 [.int (nJ a), .int (nJ b)]) 1 = _ from rfl) ?_
    exact E_rti rfl ⟨rfl, by rw [show min a b = b by omega]⟩
  · refine E_icF rfl (decide_eq_false (fun q => hb1 ((nJ_le (by omega) (by omega)).mp q))) ?_
    refine E_il rfl (show pm_get (lv_args 0 [.int (nJ a), .int (nJ b)]) 0 = _ from rfl) ?_
    refine E_goto rfl ?_
    exact E_rti rfl ⟨rfl, by rw [show min a b = a by omega]⟩
theorem sp_moreOf {h : pm_H} {d a b : Nat} (ha : a < 1000) (hb : b < 1000) : Sp (d + 1) 313 h [.int (nJ a), .int (nJ b)] (fun h' r => h' = h ∧ r = some (.int (nJ (max a b)))) := by
  refine Sp_of aiX9_moreOf rfl rfl rfl ?_
  refine E_il rfl (show pm_get (lv_args 0 [.int (nJ a), .int (nJ b)]) 0 = _ from rfl) ?_
  refine E_il rfl (show pm_get (lv_args 0 [.int (nJ a), .int (nJ b)]) 1 = _ from rfl) ?_
  by_cases hb1 : a ≤ b
  · refine E_icT rfl (decide_eq_true ((nJ_le (by omega) (by omega)).mpr hb1)) ?_
    refine E_il rfl (show pm_get (lv_args 0 [.int (nJ a), .int (nJ b)]) 1 = _ from rfl) ?_
    exact E_rti rfl ⟨rfl, by rw [show max a b = b by omega]⟩
  · refine E_icF rfl (decide_eq_false (fun q => hb1 ((nJ_le (by omega) (by omega)).mp q))) ?_
    refine E_il rfl (show pm_get (lv_args 0 [.int (nJ a), .int (nJ b)]) 0 = _ from rfl) ?_
    refine E_goto rfl ?_
    exact E_rti rfl ⟨rfl, by rw [show max a b = a by omega]⟩
theorem sp_hasRead {h : pm_H} {d k : Nat} {q : Int × Int} (hh : HH h) (hk : k < 6) (hb : bd 84 (24 + k) = some q) (h0 : 0 ≤ q.1) : Sp (d + 1) 257 h [.ref 77, .int (nJ k)] (fun h' r => h' = h ∧ r = some (.int (nJ (gn h 84 (24 + k))))) := by
  refine Sp_of aiX9_hasRead rfl rfl rfl ?_
  refine E_al rfl (show pm_get (lv_args 0 [.ref 77, .int (nJ k)]) 0 = _ from rfl) ?_
  refine E_gr rfl hh (q := 84) rfl ?_
  refine E_ci 24 rfl (by decide) ?_
  refine E_il rfl (show pm_get (lv_args 0 [.ref 77, .int (nJ k)]) 1 = _ from rfl) ?_
  refine E_bin rfl (nJ_add _ _) ?_
  refine E_ial rfl hh rfl (by omega) (by decide) (show gi h 84 ((24 + k)) = nJ ((gn h 84 (24 + k))) from gi_gn hh hb h0) ?_
  exact E_rti rfl ⟨rfl, rfl⟩
theorem sp_tells {h : pm_H} {d k n : Nat} (hh : HH h) (hk : k < 6) : Sp (d + 1) 359 h [.ref 77, .int (nJ k), .int (nJ n)] (fun h' r => r = none ∧ h' = pt h 84 (24 + k) (nJ n)) := by
  refine Sp_of aiX9_tells rfl rfl rfl ?_
  refine E_al rfl (show pm_get (lv_args 0 [.ref 77, .int (nJ k), .int (nJ n)]) 0 = _ from rfl) ?_
  refine E_gr rfl hh (q := 84) rfl ?_
  refine E_ci 24 rfl (by decide) ?_
  refine E_il rfl (show pm_get (lv_args 0 [.ref 77, .int (nJ k), .int (nJ n)]) 1 = _ from rfl) ?_
  refine E_bin rfl (nJ_add _ _) ?_
  refine E_il rfl (show pm_get (lv_args 0 [.ref 77, .int (nJ k), .int (nJ n)]) 2 = _ from rfl) ?_
  refine E_ias rfl hh rfl (by omega) (by decide) ?_
  exact E_ret rfl ⟨rfl, rfl⟩
theorem j0_loop {h0 : pm_H} {d a b x y : Nat} (hx : x = min (gn h0 101 a) (gn h0 101 b)) (hy : y = max (gn h0 101 a) (gn h0 101 b)) (hx9 : x ≤ 9) (hy9 : y ≤ 9) (j : Nat) : ∀ {h : pm_H} {k : Nat} (lv : List (Nat × Value)), k + j = 10 → 1 ≤ k → HH h → fr_g KM h0 h → (∀ i, i < k → gn h 101 i = mg (gn h0 101) a b i) → (∀ i, k ≤ i → i < 10 → gn h 101 i = gn h0 101 i) → pm_get lv 0 = some (.ref 77) → pm_get lv 3 = some (.int (nJ x)) → pm_get lv 4 = some (.int (nJ y)) → pm_get lv 5 = some (.int (nJ k)) → Ends (pm_at tX9_joins0) (pm_Rt pm_P (d + 1)) (36, lv, [], h, 0, 0) (fun h' r => r = none ∧ HH h' ∧ fr_g KM h0 h' ∧ ∀ k, k < 10 → gn h' 101 k = mg (gn h0 101) a b k) := by
  induction j with
  | zero =>
    intro h k lv hj hk hh hfr hd hn L0 L3 L4 L5
    refine E_il rfl L5 ?_
    refine E_ci 10 rfl (by decide) ?_
    refine E_icT rfl (decide_eq_true ((nJ_le (by omega) (by omega)).mpr (by omega))) ?_
    exact E_ret rfl ⟨rfl, hh, hfr, fun i hi => hd i (by omega)⟩
  | succ j ih =>
    intro h k lv hj hk hh hfr hd hn L0 L3 L4 L5
    refine E_il rfl L5 ?_
    refine E_ci 10 rfl (by decide) ?_
    refine E_icF rfl (decide_eq_false (fun q => absurd ((nJ_le (by omega) (by omega)).mp q) (by omega))) ?_
    refine E_al rfl L0 ?_
    refine E_gr rfl hh (q := 101) rfl ?_
    refine E_il rfl L5 ?_
    have b1 : gn h 101 k ≤ 9 := gn_hi hh (bd_u rfl (by omega)) (by decide)
    refine E_ial rfl hh rfl (by omega) (by decide) (gi_gn hh (bd_u rfl (by omega)) (by decide)) ?_
    refine E_il rfl L4 ?_
    by_cases hb2 : ¬ (gn h 101 k) = y
    · refine E_icT rfl (decide_eq_true (fun q => hb2 ((nJ_eq (by omega) (by omega)).mp q))) ?_
      refine E_inc rfl L5 (nJ_inc _) (fun lv3 L3_5 kp3 => ?_)
      have L3_0 := kp3 0 _ (by decide) rfl L0
      have L3_3 := kp3 3 _ (by decide) rfl L3
      have L3_4 := kp3 4 _ (by decide) rfl L4
      refine E_goto rfl ?_
      refine ih lv3 (by omega) (by omega) hh hfr (fun i hi => ?_) (fun i h1 h2 => hn i (by omega) h2) L3_0 L3_3 L3_4 L3_5
      by_cases e : i = k
      · rw [e, hn k (Nat.le_refl _) (by omega)]; exact (if_neg (fun q => hb2 (by rw [hn k (Nat.le_refl _) (by omega)]; omega))).symm
      · exact hd i (by omega)
    · refine E_icF rfl (decide_eq_false (fun q => hb2 (fun z => q ((nJ_eq (by omega) (by omega)).mpr z)))) ?_
      refine E_al rfl L0 ?_
      refine E_gr rfl hh (q := 101) rfl ?_
      refine E_il rfl L5 ?_
      refine E_il rfl L3 ?_
      refine E_ias rfl hh rfl (by omega) (by decide) ?_
      have hh4 : HH (pt h 101 k (nJ x)) := HH_ptn hh (bd_u rfl (by omega)) (by omega) (by omega) (by omega)
      refine E_inc rfl L5 (nJ_inc _) (fun lv5 L5_5 kp5 => ?_)
      have L5_0 := kp5 0 _ (by decide) rfl L0
      have L5_3 := kp5 3 _ (by decide) rfl L3
      have L5_4 := kp5 4 _ (by decide) rfl L4
      refine E_goto rfl ?_
      refine ih lv5 (by omega) (by omega) hh4 (fr_ptr (l := 0) (u := 9) rfl (by omega) (by omega) hfr) (fun i hi => ?_) (fun i h1 h2 => by rw [gn_ne (by omega)]; exact hn i (by omega) h2) L5_0 L5_3 L5_4 L5_5
      by_cases e : i = k
      · rw [e, gn_ptn hh (bd_u rfl (by omega)) (by omega) (by omega) (by omega)]; have hq := Classical.not_not.mp hb2; rw [hn k (Nat.le_refl _) (by omega)] at hq; exact ((if_pos ⟨hk, by omega⟩ : mg (gn h0 101) a b k = _).trans hx.symm).symm
      · rw [gn_ne (fun _ => e)]; exact hd i (by omega)
theorem sp_joins0 {h0 : pm_H} {d a b : Nat} (hh : HH h0) (ha : a ≤ 9) (hb : b ≤ 9) : Sp (d + 2) 283 h0 [.ref 77, .int (nJ a), .int (nJ b)] (fun h' r => r = none ∧ HH h' ∧ fr_g KM h0 h' ∧ ∀ k, k < 10 → gn h' 101 k = mg (gn h0 101) a b k) := by
  refine Sp_of aiX9_joins0 rfl rfl rfl ?_
  refine E_al rfl (show pm_get (lv_args 0 [.ref 77, .int (nJ a), .int (nJ b)]) 0 = _ from rfl) ?_
  refine E_gr rfl hh (q := 101) rfl ?_
  refine E_il rfl (show pm_get (lv_args 0 [.ref 77, .int (nJ a), .int (nJ b)]) 1 = _ from rfl) ?_
  have b1 : gn h0 101 a ≤ 9 := gn_hi hh (bd_u rfl (by omega)) (by decide)
  refine E_ial rfl hh rfl (by omega) (by decide) (gi_gn hh (bd_u rfl (by omega)) (by decide)) ?_
  refine E_al rfl (show pm_get (lv_args 0 [.ref 77, .int (nJ a), .int (nJ b)]) 0 = _ from rfl) ?_
  refine E_gr rfl hh (q := 101) rfl ?_
  refine E_il rfl (show pm_get (lv_args 0 [.ref 77, .int (nJ a), .int (nJ b)]) 2 = _ from rfl) ?_
  have b2 : gn h0 101 b ≤ 9 := gn_hi hh (bd_u rfl (by omega)) (by decide)
  refine E_ial rfl hh rfl (by omega) (by decide) (gi_gn hh (bd_u rfl (by omega)) (by decide)) ?_
  refine E_call rfl (Sp_le (by omega) (sp_lessOf (d := 0) (by omega) (by omega))) (chkS rfl (by show 0 ≤ 8; decide)) (fun h3 r3 => ?_)
  rintro ⟨e3, f3⟩
  rw [e3, f3]
  show Ends _ _ (15, (lv_args 0 [.ref 77, .int (nJ a), .int (nJ b)]), [.int (nJ (min ((gn h0 101 a)) ((gn h0 101 b))))], h0, 0, 0) _
  refine E_is rfl (fun lv4 L4_3 kp4 => ?_)
  have L4_0 := kp4 0 _ (by decide) rfl (show pm_get (lv_args 0 [.ref 77, .int (nJ a), .int (nJ b)]) 0 = _ from rfl)
  have L4_1 := kp4 1 _ (by decide) rfl (show pm_get (lv_args 0 [.ref 77, .int (nJ a), .int (nJ b)]) 1 = _ from rfl)
  have L4_2 := kp4 2 _ (by decide) rfl (show pm_get (lv_args 0 [.ref 77, .int (nJ a), .int (nJ b)]) 2 = _ from rfl)
  refine E_al rfl L4_0 ?_
  refine E_gr rfl hh (q := 101) rfl ?_
  refine E_il rfl L4_1 ?_
  have b5 : gn h0 101 a ≤ 9 := gn_hi hh (bd_u rfl (by omega)) (by decide)
  refine E_ial rfl hh rfl (by omega) (by decide) (gi_gn hh (bd_u rfl (by omega)) (by decide)) ?_
  refine E_al rfl L4_0 ?_
  refine E_gr rfl hh (q := 101) rfl ?_
  refine E_il rfl L4_2 ?_
  have b6 : gn h0 101 b ≤ 9 := gn_hi hh (bd_u rfl (by omega)) (by decide)
  refine E_ial rfl hh rfl (by omega) (by decide) (gi_gn hh (bd_u rfl (by omega)) (by decide)) ?_
  refine E_call rfl (Sp_le (by omega) (sp_moreOf (d := 0) (by omega) (by omega))) (chkS rfl (by show 0 ≤ 8; decide)) (fun h7 r7 => ?_)
  rintro ⟨e7, f7⟩
  rw [e7, f7]
  show Ends _ _ (31, lv4, [.int (nJ (max ((gn h0 101 a)) ((gn h0 101 b))))], h0, 0, 0) _
  refine E_is rfl (fun lv8 L8_4 kp8 => ?_)
  have L8_0 := kp8 0 _ (by decide) rfl L4_0
  have L8_1 := kp8 1 _ (by decide) rfl L4_1
  have L8_2 := kp8 2 _ (by decide) rfl L4_2
  have L8_3 := kp8 3 _ (by decide) rfl L4_3
  refine E_ci 1 rfl (by decide) ?_
  refine E_is rfl (fun lv9 L9_5 kp9 => ?_)
  have L9_0 := kp9 0 _ (by decide) rfl L8_0
  have L9_1 := kp9 1 _ (by decide) rfl L8_1
  have L9_2 := kp9 2 _ (by decide) rfl L8_2
  have L9_3 := kp9 3 _ (by decide) rfl L8_3
  have L9_4 := kp9 4 _ (by decide) rfl L8_4
  exact j0_loop rfl rfl (by omega) (by omega) 9 (k := 1) lv9 (by omega) (by omega) hh (fr_rf _ _) (fun i hi => by rw [show i = 0 by omega]; exact (if_neg (by omega)).symm) (fun _ _ _ => rfl) L9_0 L9_3 L9_4 L9_5
end
