section
theorem WFb_mg {b : Nat → Nat} {x y : Nat} (W : WFb b) (x1 : 1 ≤ x) (x9 : x ≤ 9) (y1 : 1 ≤ y) (y9 : y ≤ 9) : WFb (mg b x y) := by
  intro k k1 k9
  have wk := W k k1 k9
  have wx := W x x1 x9
  have wy := W y y1 y9
  have wbk := W (b k) wk.1 (by omega)
  by_cases hk : b k = max (b x) (b y)
  · have e1 : mg b x y k = min (b x) (b y) := if_pos ⟨k1, hk⟩
    rw [e1]
    refine ⟨by omega, by omega, ?_⟩
    by_cases hxy : b x = b y
    · have : min (b x) (b y) = b x := by omega
      rw [this]
      show (if 1 ≤ b x ∧ b (b x) = max (b x) (b y) then min (b x) (b y) else b (b x)) = b x
      rw [if_pos ⟨wx.1, by omega⟩]; omega
    · by_cases hle : b x ≤ b y
      · have : min (b x) (b y) = b x := by omega
        rw [this]
        show (if 1 ≤ b x ∧ b (b x) = max (b x) (b y) then min (b x) (b y) else b (b x)) = b x
        rw [if_neg (by omega)]; exact wx.2.2
      · have : min (b x) (b y) = b y := by omega
        rw [this]
        show (if 1 ≤ b y ∧ b (b y) = max (b x) (b y) then min (b x) (b y) else b (b y)) = b y
        rw [if_neg (by omega)]; exact wy.2.2
  · have e1 : mg b x y k = b k := if_neg (fun q => hk q.2)
    rw [e1]
    refine ⟨wk.1, wk.2.1, ?_⟩
    show (if 1 ≤ b k ∧ b (b k) = max (b x) (b y) then min (b x) (b y) else b (b k)) = b k
    rw [if_neg (by omega)]; exact wk.2.2
theorem rc_mg {b : Nat → Nat} {x y : Nat} (W : WFb b) (x1 : 1 ≤ x) (x9 : x ≤ 9) (y1 : 1 ≤ y) (y9 : y ≤ 9) (hne : b x ≠ b y) : rc (mg b x y) + 1 = rc b := by
  have wx := W x x1 x9
  have wy := W y y1 y9
  obtain ⟨M, hM⟩ : ∃ M, M = max (b x) (b y) := ⟨_, rfl⟩
  obtain ⟨m, hm⟩ : ∃ m, m = min (b x) (b y) := ⟨_, rfl⟩
  have hMM : b M = M := by
    by_cases hle : b x ≤ b y
    · have : M = b y := by omega
      rw [this]; exact wy.2.2
    · have : M = b x := by omega
      rw [this]; exact wx.2.2
  have hmm : b m = m := by
    by_cases hle : b x ≤ b y
    · have : m = b x := by omega
      rw [this]; exact wx.2.2
    · have : m = b y := by omega
      rw [this]; exact wy.2.2
  have hR : Rt b M ≠ 0 := by unfold Rt; rw [if_pos ⟨by omega, hMM⟩]; decide
  unfold rc
  rw [← lc_fu0 hR (n := 10) (by omega)]
  congr 1
  refine lc_eq (fun k hk => ?_)
  by_cases e : k = M
  · rw [e, fu_same]
    unfold Rt
    rw [if_neg]
    · intro q
      have : mg b x y M = m := by rw [hm]; exact if_pos ⟨q.1, by omega⟩
      omega
  · rw [fu_ne e]
    unfold Rt
    by_cases k1 : 1 ≤ k
    · by_cases hk2 : b k = M
      · have e2 : mg b x y k = m := by rw [hm]; exact if_pos ⟨k1, by omega⟩
        rw [if_neg (show ¬ (1 ≤ k ∧ b k = k) from fun q => e (by omega)), if_neg]
        intro q
        have h9 := q.2
        rw [e2] at h9
        rw [← h9, hmm] at hk2
        omega
      · have e2 : mg b x y k = b k := if_neg (fun q => hk2 (by omega))
        rw [e2]
    · rw [if_neg (fun q => k1 q.1), if_neg (fun q => k1 q.1)]
theorem rc_pos {b : Nat → Nat} (W : WFb b) : 1 ≤ rc b := by
  by_cases h : rc b = 0
  · exfalso
    have := lc_zero h 1 (by omega)
    have w1 := W 1 (by omega) (by omega)
    unfold Rt at this
    rw [if_pos ⟨by omega, by omega⟩] at this
    cases this
  · omega
theorem WFb_bk {e : Nat → Nat} : ∀ {j : Nat}, (∀ i, i < j → (1 ≤ e (64 + 2 * i) ∧ e (64 + 2 * i) ≤ 9) ∧ (1 ≤ e (64 + 2 * i + 1) ∧ e (64 + 2 * i + 1) ≤ 9)) → WFb (bk e j)
  | 0, _ => fun k k1 _ => ⟨k1, Nat.le_refl _, rfl⟩
  | j + 1, h => by
    have ih := WFb_bk (e := e) (j := j) (fun i hi => h i (by omega))
    have hj := h j (by omega)
    exact WFb_mg ih hj.1.1 hj.1.2 hj.2.1 hj.2.2
noncomputable def JN (h : pm_H) : Prop := gn h 84 28 ≤ 8 ∧ (∀ i, i < gn h 84 28 → 1 ≤ gn h 86 (64 + 2 * i) ∧ 1 ≤ gn h 86 (64 + 2 * i + 1)) ∧ rc (bk (gn h 86) (gn h 84 28)) + gn h 84 28 = 9
theorem JN_wf {h : pm_H} (hh : HH h) (J : JN h) : WFb (bk (gn h 86) (gn h 84 28)) := WFb_bk (fun i hi => by
  have := J.1
  have q := J.2.1 i hi
  exact ⟨⟨q.1, gn_hi hh (bd_u rfl (by omega)) (by decide)⟩, q.2, gn_hi hh (bd_u rfl (by omega)) (by decide)⟩)
noncomputable def KM : List Rng := [(101, 0, 9)]
theorem sp_lessOf {h : pm_H} {d a b : Nat} (ha : a < 1000) (hb : b < 1000) : Sp (d + 1) 301 h [.int (nJ a), .int (nJ b)] (fun h' r => h' = h ∧ r = some (.int (nJ (min a b)))) := by
  refine Sp_of aiX9_lessOf rfl rfl rfl ?_
  refine E_il rfl (show pm_get (lv_args 0 [.int (nJ a), .int (nJ b)]) 0 = _ from rfl) ?_
  refine E_il rfl (show pm_get (lv_args 0 [.int (nJ a), .int (nJ b)]) 1 = _ from rfl) ?_
  by_cases hb1 : b ≤ a
  · refine E_icT rfl (decide_eq_true ((nJ_le (by omega) (by omega)).mpr hb1)) ?_
    refine E_il rfl (show pm_get (lv_args 0 [.int (nJ a), .int (nJ b)]) 1 = _ from rfl) ?_
    exact E_rti rfl ⟨rfl, by rw [show min a b = b by omega]⟩
  · refine E_icF rfl (decide_eq_false (fun q => hb1 ((nJ_le (by omega) (by omega)).mp q))) ?_
    refine E_il rfl (show pm_get (lv_args 0 [.int (nJ a), .int (nJ b)]) 0 = _ from rfl) ?_
    refine E_goto rfl ?_
    exact E_rti rfl ⟨rfl, by rw [show min a b = a by omega]⟩
theorem sp_moreOf {h : pm_H} {d a b : Nat} (ha : a < 1000) (hb : b < 1000) : Sp (d + 1) 313 h [.int (nJ a), .int (nJ b)] (fun h' r => h' = h ∧ r = some (.int (nJ (max a b)))) := by
  refine Sp_of aiX9_moreOf rfl rfl rfl ?_
  refine E_il rfl (show pm_get (lv_args 0 [.int (nJ a), .int (nJ b)]) 0 = _ from rfl) ?_
  refine E_il rfl (show pm_get (lv_args 0 [.int (nJ a), .int (nJ b)]) 1 = _ from rfl) ?_
  by_cases hb1 : a ≤ b
  · refine E_icT rfl (decide_eq_true ((nJ_le (by omega) (by omega)).mpr hb1)) ?_
    refine E_il rfl (show pm_get (lv_args 0 [.int (nJ a), .int (nJ b)]) 1 = _ from rfl) ?_
    exact E_rti rfl ⟨rfl, by rw [show max a b = b by omega]⟩
  · refine E_icF rfl (decide_eq_false (fun q => hb1 ((nJ_le (by omega) (by omega)).mp q))) ?_
    refine E_il rfl (show pm_get (lv_args 0 [.int (nJ a), .int (nJ b)]) 0 = _ from rfl) ?_
    refine E_goto rfl ?_
    exact E_rti rfl ⟨rfl, by rw [show max a b = a by omega]⟩
theorem sp_hasRead {h : pm_H} {d k : Nat} {q : Int × Int} (hh : HH h) (hk : k < 6) (hb : bd 84 (24 + k) = some q) (h0 : 0 ≤ q.1) : Sp (d + 1) 257 h [.ref 77, .int (nJ k)] (fun h' r => h' = h ∧ r = some (.int (nJ (gn h 84 (24 + k))))) := by
  refine Sp_of aiX9_hasRead rfl rfl rfl ?_
  refine E_al rfl (show pm_get (lv_args 0 [.ref 77, .int (nJ k)]) 0 = _ from rfl) ?_
  refine E_gr rfl hh (q := 84) rfl ?_
  refine E_ci 24 rfl ci24 ?_
  refine E_il rfl (show pm_get (lv_args 0 [.ref 77, .int (nJ k)]) 1 = _ from rfl) ?_
  refine E_bin rfl (nJ_add _ _) ?_
  refine E_ial rfl hh rfl (by omega) (by decide) (show gi h 84 ((24 + k)) = nJ ((gn h 84 (24 + k))) from gi_gn hh hb h0) ?_
  exact E_rti rfl ⟨rfl, rfl⟩
theorem sp_tells {h : pm_H} {d k n : Nat} (hh : HH h) (hk : k < 6) : Sp (d + 1) 359 h [.ref 77, .int (nJ k), .int (nJ n)] (fun h' r => r = none ∧ h' = pt h 84 (24 + k) (nJ n)) := by
  refine Sp_of aiX9_tells rfl rfl rfl ?_
  refine E_al rfl (show pm_get (lv_args 0 [.ref 77, .int (nJ k), .int (nJ n)]) 0 = _ from rfl) ?_
  refine E_gr rfl hh (q := 84) rfl ?_
  refine E_ci 24 rfl ci24 ?_
  refine E_il rfl (show pm_get (lv_args 0 [.ref 77, .int (nJ k), .int (nJ n)]) 1 = _ from rfl) ?_
  refine E_bin rfl (nJ_add _ _) ?_
  refine E_il rfl (show pm_get (lv_args 0 [.ref 77, .int (nJ k), .int (nJ n)]) 2 = _ from rfl) ?_
  refine E_ias rfl hh rfl (by omega) (by decide) ?_
  exact E_ret rfl ⟨rfl, rfl⟩
theorem j0_loop {h0 : pm_H} {d a b x y : Nat} (hx : x = min (gn h0 101 a) (gn h0 101 b)) (hy : y = max (gn h0 101 a) (gn h0 101 b)) (hx9 : x ≤ 9) (hy9 : y ≤ 9) (j : Nat) : ∀ {h : pm_H} {k : Nat} (lv : List (Nat × Value)), k + j = 10 → 1 ≤ k → HH h → fr_g KM h0 h → (∀ i, i < k → gn h 101 i = mg (gn h0 101) a b i) → (∀ i, k ≤ i → i < 10 → gn h 101 i = gn h0 101 i) → pm_get lv 0 = some (.ref 77) → pm_get lv 3 = some (.int (nJ x)) → pm_get lv 4 = some (.int (nJ y)) → pm_get lv 5 = some (.int (nJ k)) → Ends (pm_at tX9_joins0) (pm_Rt pm_P (d + 1)) (36, lv, [], h, 0, 0) (fun h' r => r = none ∧ HH h' ∧ fr_g KM h0 h' ∧ ∀ k, k < 10 → gn h' 101 k = mg (gn h0 101) a b k) := by
  induction j with
  | zero =>
    intro h k lv hj hk hh hfr hd hn L0 L3 L4 L5
    refine E_il rfl L5 ?_
    refine E_ci 10 rfl ci10 ?_
    refine E_icT rfl (decide_eq_true ((nJ_le (by omega) (by omega)).mpr (by omega))) ?_
    exact E_ret rfl ⟨rfl, hh, hfr, fun i hi => hd i (by omega)⟩
  | succ j ih =>
    intro h k lv hj hk hh hfr hd hn L0 L3 L4 L5
    refine E_il rfl L5 ?_
    refine E_ci 10 rfl ci10 ?_
    refine E_icF rfl (decide_eq_false (fun q => absurd ((nJ_le (by omega) (by omega)).mp q) (by omega))) ?_
    refine E_al rfl L0 ?_
    refine E_gr rfl hh (q := 101) rfl ?_
    refine E_il rfl L5 ?_
    have b1 : gn h 101 k ≤ 9 := gn_hi hh (bd_u rfl (by omega)) (by decide)
    refine E_ial rfl hh rfl (by omega) (by decide) (gi_gn hh (bd_u rfl (by omega)) (by decide)) ?_
    refine E_il rfl L4 ?_
    by_cases hb2 : ¬ (gn h 101 k) = y
    · refine E_icT rfl (decide_eq_true (fun q => hb2 ((nJ_eq (by omega) (by omega)).mp q))) ?_
      refine E_inc rfl L5 (nJ_inc _) (fun lv3 L3_5 kp3 => ?_)
      have L3_0 := kp3 0 _ (nbz rfl) rfl L0
      have L3_3 := kp3 3 _ (nbz rfl) rfl L3
      have L3_4 := kp3 4 _ (nbz rfl) rfl L4
      refine E_goto rfl ?_
      refine ih lv3 (by omega) (by omega) hh hfr (fun i hi => ?_) (fun i h1 h2 => hn i (by omega) h2) L3_0 L3_3 L3_4 L3_5
      by_cases e : i = k
      · rw [e, hn k (Nat.le_refl _) (by omega)]; exact (if_neg (fun q => hb2 (by rw [hn k (Nat.le_refl _) (by omega)]; omega))).symm
      · exact hd i (by omega)
    · refine E_icF rfl (decide_eq_false (fun q => hb2 (fun z => q ((nJ_eq (by omega) (by omega)).mpr z)))) ?_
      refine E_al rfl L0 ?_
      refine E_gr rfl hh (q := 101) rfl ?_
      refine E_il rfl L5 ?_
      refine E_il rfl L3 ?_
      refine E_ias rfl hh rfl (by omega) (by decide) ?_
      have hh4 : HH (pt h 101 k (nJ x)) := HH_ptn hh (bd_u rfl (by omega)) (by omega) (by omega) (by omega)
      refine E_inc rfl L5 (nJ_inc _) (fun lv5 L5_5 kp5 => ?_)
      have L5_0 := kp5 0 _ (nbz rfl) rfl L0
      have L5_3 := kp5 3 _ (nbz rfl) rfl L3
      have L5_4 := kp5 4 _ (nbz rfl) rfl L4
      refine E_goto rfl ?_
      refine ih lv5 (by omega) (by omega) hh4 (fr_ptr (l := 0) (u := 9) rfl (by omega) (by omega) hfr) (fun i hi => ?_) (fun i h1 h2 => by rw [gn_ne (by first | exact gxx rfl | omega)]; exact hn i (by omega) h2) L5_0 L5_3 L5_4 L5_5
      by_cases e : i = k
      · rw [e, gn_ptn hh (bd_u rfl (by omega)) (by omega) (by omega) (by omega)]; have hq := Classical.not_not.mp hb2; rw [hn k (Nat.le_refl _) (by omega)] at hq; exact ((if_pos ⟨hk, by omega⟩ : mg (gn h0 101) a b k = _).trans hx.symm).symm
      · rw [gn_ne (fun _ => e)]; exact hd i (by omega)
theorem sp_joins0 {h0 : pm_H} {d a b : Nat} (hh : HH h0) (ha : a ≤ 9) (hb : b ≤ 9) : Sp (d + 2) 283 h0 [.ref 77, .int (nJ a), .int (nJ b)] (fun h' r => r = none ∧ HH h' ∧ fr_g KM h0 h' ∧ ∀ k, k < 10 → gn h' 101 k = mg (gn h0 101) a b k) := by
  refine Sp_of aiX9_joins0 rfl rfl rfl ?_
  refine E_al rfl (show pm_get (lv_args 0 [.ref 77, .int (nJ a), .int (nJ b)]) 0 = _ from rfl) ?_
  refine E_gr rfl hh (q := 101) rfl ?_
  refine E_il rfl (show pm_get (lv_args 0 [.ref 77, .int (nJ a), .int (nJ b)]) 1 = _ from rfl) ?_
  have b1 : gn h0 101 a ≤ 9 := gn_hi hh (bd_u rfl (by omega)) (by decide)
  refine E_ial rfl hh rfl (by omega) (by decide) (gi_gn hh (bd_u rfl (by omega)) (by decide)) ?_
  refine E_al rfl (show pm_get (lv_args 0 [.ref 77, .int (nJ a), .int (nJ b)]) 0 = _ from rfl) ?_
  refine E_gr rfl hh (q := 101) rfl ?_
  refine E_il rfl (show pm_get (lv_args 0 [.ref 77, .int (nJ a), .int (nJ b)]) 2 = _ from rfl) ?_
  have b2 : gn h0 101 b ≤ 9 := gn_hi hh (bd_u rfl (by omega)) (by decide)
  refine E_ial rfl hh rfl (by omega) (by decide) (gi_gn hh (bd_u rfl (by omega)) (by decide)) ?_
  refine E_call rfl (Sp_le (by first | exact Nat.add_le_add_left (Nat.le_of_ble_eq_true rfl) _ | exact Nat.le_of_ble_eq_true rfl | omega) (sp_lessOf (d := 0) (by omega) (by omega))) (chkS rfl (by show 0 ≤ 8; decide)) (fun h3 r3 => ?_)
  rintro ⟨e3, f3⟩
  rw [e3, f3]
  show Ends _ _ (15, (lv_args 0 [.ref 77, .int (nJ a), .int (nJ b)]), [.int (nJ (min ((gn h0 101 a)) ((gn h0 101 b))))], h0, 0, 0) _
  refine E_is rfl (fun lv4 L4_3 kp4 => ?_)
  have L4_0 := kp4 0 _ (nbz rfl) rfl (show pm_get (lv_args 0 [.ref 77, .int (nJ a), .int (nJ b)]) 0 = _ from rfl)
  have L4_1 := kp4 1 _ (nbz rfl) rfl (show pm_get (lv_args 0 [.ref 77, .int (nJ a), .int (nJ b)]) 1 = _ from rfl)
  have L4_2 := kp4 2 _ (nbz rfl) rfl (show pm_get (lv_args 0 [.ref 77, .int (nJ a), .int (nJ b)]) 2 = _ from rfl)
  refine E_al rfl L4_0 ?_
  refine E_gr rfl hh (q := 101) rfl ?_
  refine E_il rfl L4_1 ?_
  have b5 : gn h0 101 a ≤ 9 := gn_hi hh (bd_u rfl (by omega)) (by decide)
  refine E_ial rfl hh rfl (by omega) (by decide) (gi_gn hh (bd_u rfl (by omega)) (by decide)) ?_
  refine E_al rfl L4_0 ?_
  refine E_gr rfl hh (q := 101) rfl ?_
  refine E_il rfl L4_2 ?_
  have b6 : gn h0 101 b ≤ 9 := gn_hi hh (bd_u rfl (by omega)) (by decide)
  refine E_ial rfl hh rfl (by omega) (by decide) (gi_gn hh (bd_u rfl (by omega)) (by decide)) ?_
  refine E_call rfl (Sp_le (by first | exact Nat.add_le_add_left (Nat.le_of_ble_eq_true rfl) _ | exact Nat.le_of_ble_eq_true rfl | omega) (sp_moreOf (d := 0) (by omega) (by omega))) (chkS rfl (by show 0 ≤ 8; decide)) (fun h7 r7 => ?_)
  rintro ⟨e7, f7⟩
  rw [e7, f7]
  show Ends _ _ (31, lv4, [.int (nJ (max ((gn h0 101 a)) ((gn h0 101 b))))], h0, 0, 0) _
  refine E_is rfl (fun lv8 L8_4 kp8 => ?_)
  have L8_0 := kp8 0 _ (nbz rfl) rfl L4_0
  have L8_1 := kp8 1 _ (nbz rfl) rfl L4_1
  have L8_2 := kp8 2 _ (nbz rfl) rfl L4_2
  have L8_3 := kp8 3 _ (nbz rfl) rfl L4_3
  refine E_ci 1 rfl ci1 ?_
  refine E_is rfl (fun lv9 L9_5 kp9 => ?_)
  have L9_0 := kp9 0 _ (nbz rfl) rfl L8_0
  have L9_1 := kp9 1 _ (nbz rfl) rfl L8_1
  have L9_2 := kp9 2 _ (nbz rfl) rfl L8_2
  have L9_3 := kp9 3 _ (nbz rfl) rfl L8_3
  have L9_4 := kp9 4 _ (nbz rfl) rfl L8_4
  exact j0_loop rfl rfl (by omega) (by omega) 9 (k := 1) lv9 (by omega) (by omega) hh (fr_rf _ _) (fun i hi => by rw [show i = 0 by omega]; exact (if_neg (by omega)).symm) (fun _ _ _ => rfl) L9_0 L9_3 L9_4 L9_5
theorem lb_two {h0 : pm_H} {d n : Nat} (hh0 : HH h0) (hn : n ≤ 8) (j : Nat) : ∀ {h : pm_H} {i : Nat} (lv : List (Nat × Value)), i + j = n → HH h → fr_g KM h0 h → (∀ k, k < 10 → gn h 101 k = bk (gn h0 86) i k) → pm_get lv 0 = some (.ref 77) → pm_get lv 1 = some (.int (nJ 4)) → pm_get lv 2 = some (.int (nJ n)) → pm_get lv 3 = some (.int (nJ i)) → Ends (pm_at tX9_laysBlocks) (pm_Rt pm_P (d + 3)) (23, lv, [], h, 0, 0) (fun h' r => r = none ∧ HH h' ∧ fr_g KM h0 h' ∧ ∀ k, k < 10 → gn h' 101 k = bk (gn h0 86) n k) := by
  induction j with
  | zero =>
    intro h i lv hj hh hfr hc L0 L1 L2 L3
    refine E_il rfl L3 ?_
    refine E_il rfl L2 ?_
    refine E_icT rfl (decide_eq_true ((nJ_le (by omega) (by omega)).mpr (by omega))) ?_
    exact E_ret rfl ⟨rfl, hh, hfr, fun k hk => by rw [hc k hk, show i = n by omega]⟩
  | succ j ih =>
    intro h i lv hj hh hfr hc L0 L1 L2 L3
    refine E_il rfl L3 ?_
    refine E_il rfl L2 ?_
    refine E_icF rfl (decide_eq_false (fun q => absurd ((nJ_le (by omega) (by omega)).mp q) (by omega))) ?_
    have ha9 : gn h0 86 (64 + 2 * i) ≤ 9 := gn_hi hh0 (bd_u rfl (by omega)) (by decide)
    have hb9 : gn h0 86 (64 + 2 * i + 1) ≤ 9 := gn_hi hh0 (bd_u rfl (by omega)) (by decide)
    refine E_al rfl L0 ?_
    refine E_al rfl L0 ?_
    refine E_gr rfl hh (q := 86) rfl ?_
    refine E_ci 2 rfl ci2 ?_
    refine E_ci 8 rfl ci8 ?_
    refine E_il rfl L1 ?_
    refine E_bin rfl (nJ_mul _ _) ?_
    refine E_il rfl L3 ?_
    refine E_bin rfl (nJ_add _ _) ?_
    refine E_bin rfl (nJ_mul _ _) ?_
    refine E_ial rfl hh rfl (by omega) (by decide) (show gi h 86 ((2 * ((8 * 4) + i))) = nJ ((gn h0 86 (64 + 2 * i))) from by rw [show (2 * ((8 * 4) + i)) = 64 + 2 * i by omega, fr_gi hfr (rg_no rfl _)]; exact gi_gn hh0 (bd_u rfl (by omega)) (by decide)) ?_
    refine E_al rfl L0 ?_
    refine E_gr rfl hh (q := 86) rfl ?_
    refine E_ci 2 rfl ci2 ?_
    refine E_ci 8 rfl ci8 ?_
    refine E_il rfl L1 ?_
    refine E_bin rfl (nJ_mul _ _) ?_
    refine E_il rfl L3 ?_
    refine E_bin rfl (nJ_add _ _) ?_
    refine E_bin rfl (nJ_mul _ _) ?_
    refine E_ci 1 rfl ci1 ?_
    refine E_bin rfl (nJ_add _ _) ?_
    refine E_ial rfl hh rfl (by omega) (by decide) (show gi h 86 (((2 * ((8 * 4) + i)) + 1)) = nJ ((gn h0 86 (64 + 2 * i + 1))) from by rw [show ((2 * ((8 * 4) + i)) + 1) = 64 + 2 * i + 1 by omega, fr_gi hfr (rg_no rfl _)]; exact gi_gn hh0 (bd_u rfl (by omega)) (by decide)) ?_
    refine E_call rfl (Sp_le (by first | exact Nat.add_le_add_left (Nat.le_of_ble_eq_true rfl) _ | exact Nat.le_of_ble_eq_true rfl | omega) (sp_joins0 (d := 0) hh (by omega) (by omega))) (chk77 hh rfl rfl (by show 0 ≤ 8; decide)) (fun h1 r1 => ?_)
    rintro ⟨e1, hh1, fq1, cq1⟩
    rw [e1]
    show Ends _ _ (60, lv, [], h1, 0, 0) _
    refine E_inc rfl L3 (nJ_inc _) (fun lv2 L2_3 kp2 => ?_)
    have L2_0 := kp2 0 _ (nbz rfl) rfl L0
    have L2_1 := kp2 1 _ (nbz rfl) rfl L1
    have L2_2 := kp2 2 _ (nbz rfl) rfl L2
    refine E_goto rfl ?_
    refine ih lv2 (by omega) hh1 (fr_trans hfr fq1) (fun k hk => ?_) L2_0 L2_1 L2_2 L2_3
    rw [cq1 k hk]
    show (if 1 ≤ k ∧ gn h 101 k = max (gn h 101 (gn h0 86 (64 + 2 * i))) (gn h 101 (gn h0 86 (64 + 2 * i + 1))) then min (gn h 101 (gn h0 86 (64 + 2 * i))) (gn h 101 (gn h0 86 (64 + 2 * i + 1))) else gn h 101 k) = mg (bk (gn h0 86) i) (gn h0 86 (64 + 2 * i)) (gn h0 86 (64 + 2 * i + 1)) k
    rw [hc k hk, hc _ (by omega), hc _ (by omega)]
    rfl
theorem lb_one {h0 : pm_H} {d n : Nat} (hh0 : HH h0) (hn : n ≤ 8) (j : Nat) : ∀ {h : pm_H} {i : Nat} (lv : List (Nat × Value)), i + j = 10 → HH h → fr_g KM h0 h → (∀ k, k < i → gn h 101 k = k) → pm_get lv 0 = some (.ref 77) → pm_get lv 1 = some (.int (nJ 4)) → pm_get lv 2 = some (.int (nJ n)) → pm_get lv 3 = some (.int (nJ i)) → Ends (pm_at tX9_laysBlocks) (pm_Rt pm_P (d + 3)) (2, lv, [], h, 0, 0) (fun h' r => r = none ∧ HH h' ∧ fr_g KM h0 h' ∧ ∀ k, k < 10 → gn h' 101 k = bk (gn h0 86) n k) := by
  induction j with
  | zero =>
    intro h i lv hj hh hfr hc L0 L1 L2 L3
    refine E_il rfl L3 ?_
    refine E_ci 10 rfl ci10 ?_
    refine E_icT rfl (decide_eq_true ((nJ_le (by omega) (by omega)).mpr (by omega))) ?_
    refine E_ci 0 rfl ci0 ?_
    refine E_is rfl (fun lv1 L1_3 kp1 => ?_)
    have L1_0 := kp1 0 _ (nbz rfl) rfl L0
    have L1_1 := kp1 1 _ (nbz rfl) rfl L1
    have L1_2 := kp1 2 _ (nbz rfl) rfl L2
    exact lb_two hh0 hn n (i := 0) lv1 (by omega) hh hfr (fun k hk => hc k (by omega)) L1_0 L1_1 L1_2 L1_3
  | succ j ih =>
    intro h i lv hj hh hfr hc L0 L1 L2 L3
    refine E_il rfl L3 ?_
    refine E_ci 10 rfl ci10 ?_
    refine E_icF rfl (decide_eq_false (fun q => absurd ((nJ_le (by omega) (by omega)).mp q) (by omega))) ?_
    refine E_al rfl L0 ?_
    refine E_gr rfl hh (q := 101) rfl ?_
    refine E_il rfl L3 ?_
    refine E_il rfl L3 ?_
    refine E_ias rfl hh rfl (by omega) (by decide) ?_
    have hh1 : HH (pt h 101 i (nJ i)) := HH_ptn hh (bd_u rfl (by omega)) (by omega) (by omega) (by omega)
    refine E_inc rfl L3 (nJ_inc _) (fun lv2 L2_3 kp2 => ?_)
    have L2_0 := kp2 0 _ (nbz rfl) rfl L0
    have L2_1 := kp2 1 _ (nbz rfl) rfl L1
    have L2_2 := kp2 2 _ (nbz rfl) rfl L2
    refine E_goto rfl ?_
    refine ih lv2 (by omega) hh1 (fr_ptr (l := 0) (u := 9) rfl (by omega) (by omega) hfr) (fun k hk => ?_) L2_0 L2_1 L2_2 L2_3
    by_cases e : k = i
    · rw [e, gn_ptn hh (bd_u rfl (by omega)) (by omega) (by omega) (by omega)]
    · rw [gn_ne (fun _ => e)]; exact hc k (by omega)
theorem sp_laysBlocks4 {h0 : pm_H} {d n : Nat} (hh : HH h0) (hn : n ≤ 8) : Sp (d + 4) 294 h0 [.ref 77, .int (nJ 4), .int (nJ n)] (fun h' r => r = none ∧ HH h' ∧ fr_g KM h0 h' ∧ ∀ k, k < 10 → gn h' 101 k = bk (gn h0 86) n k) := by
  refine Sp_of aiX9_laysBlocks rfl rfl rfl ?_
  refine E_ci 0 rfl ci0 ?_
  refine E_is rfl (fun lv1 L1_3 kp1 => ?_)
  have L1_0 := kp1 0 _ (nbz rfl) rfl (show pm_get (lv_args 0 [.ref 77, .int (nJ 4), .int (nJ n)]) 0 = _ from rfl)
  have L1_1 := kp1 1 _ (nbz rfl) rfl (show pm_get (lv_args 0 [.ref 77, .int (nJ 4), .int (nJ n)]) 1 = _ from rfl)
  have L1_2 := kp1 2 _ (nbz rfl) rfl (show pm_get (lv_args 0 [.ref 77, .int (nJ 4), .int (nJ n)]) 2 = _ from rfl)
  exact lb_one hh hn 10 (i := 0) lv1 (by omega) hh (fr_rf _ _) (fun k hk => absurd hk (Nat.not_lt_zero _)) L1_0 L1_1 L1_2 L1_3
theorem sp_mayJoin {h : pm_H} {d a b n : Nat} (hh : HH h) (a1 : 1 ≤ a) (a9 : a ≤ 9) (b1 : 1 ≤ b) (b9 : b ≤ 9) (n1 : 1 ≤ n) (n9 : n ≤ 9) : Sp (d + 2) 309 h [.ref 77, .int (nJ a), .int (nJ b), .int (nJ n)] (fun h' r => HH h' ∧ fr_g [] h h' ∧ (r = some (.int (nJ 0)) ∨ r = some (.int (nJ 1)) ∧ gn h 101 a ≠ gn h 101 b)) := by
  by_cases he : gn h 101 a = gn h 101 b
  · refine Sp_of aiX9_mayJoin rfl rfl rfl ?_
    refine E_al rfl (show pm_get (lv_args 0 [.ref 77, .int (nJ a), .int (nJ b), .int (nJ n)]) 0 = _ from rfl) ?_
    refine E_gr rfl hh (q := 101) rfl ?_
    refine E_il rfl (show pm_get (lv_args 0 [.ref 77, .int (nJ a), .int (nJ b), .int (nJ n)]) 1 = _ from rfl) ?_
    have b1 : gn h 101 a ≤ 9 := gn_hi hh (bd_u rfl (by omega)) (by decide)
    refine E_ial rfl hh rfl (by omega) (by decide) (gi_gn hh (bd_u rfl (by omega)) (by decide)) ?_
    refine E_al rfl (show pm_get (lv_args 0 [.ref 77, .int (nJ a), .int (nJ b), .int (nJ n)]) 0 = _ from rfl) ?_
    refine E_gr rfl hh (q := 101) rfl ?_
    refine E_il rfl (show pm_get (lv_args 0 [.ref 77, .int (nJ a), .int (nJ b), .int (nJ n)]) 2 = _ from rfl) ?_
    have b2 : gn h 101 b ≤ 9 := gn_hi hh (bd_u rfl (by omega)) (by decide)
    refine E_ial rfl hh rfl (by omega) (by decide) (gi_gn hh (bd_u rfl (by omega)) (by decide)) ?_
    refine E_icF rfl (decide_eq_false (fun q => q (by rw [he]))) ?_
    refine E_ci 0 rfl ci0 ?_
    exact E_rtz rfl (.inl rfl) ⟨hh, fr_rf _ _, .inl rfl⟩
  · refine Sp_le (by first | exact Nat.add_le_add_left (Nat.le_of_ble_eq_true rfl) _ | exact Nat.le_of_ble_eq_true rfl | omega) (Sp_mono ?_ (Sp_sum (as := [.ref 77, .int (nJ a), .int (nJ b), .int (nJ n)]) q563 hh ⟨rfl, nJ_in (by omega) (by omega), nJ_in (by omega) (by omega), nJ_in (by omega) (by omega), trivial⟩ (fun _ hq => absurd hq List.not_mem_nil) (fun _ hq => absurd hq List.not_mem_nil)))
    rintro h' r ⟨q1, q2, C, hC, -, -, -, rv⟩
    refine ⟨q1, q2, ?_⟩
    have hC' : C ∈ [([cR 77, cI 1 9, cI 1 9, cI 1 9], [], [], some (.inl (cI 0 0))), ([cR 77, cI 1 9, cI 1 9, cI 1 9], [], [], some (.inl (cI 1 1)))] := hC
    rcases List.mem_cons.mp hC' with e | e
    · subst e
      cases r with
      | none => exact rv.elim
      | some v => cases v with
        | int x => exact .inl (congrArg some (congrArg Value.int (Int32.toInt_inj.mp (show x.toInt = 0 from Int.le_antisymm rv.2 rv.1))))
        | _ => exact rv.elim
    · have e := List.mem_singleton.mp e
      subst e
      cases r with
      | none => exact rv.elim
      | some v => cases v with
        | int x => exact .inr ⟨congrArg some (congrArg Value.int (Int32.toInt_inj.mp (show x.toInt = 1 from Int.le_antisymm rv.2 rv.1))), he⟩
        | _ => exact rv.elim
end
